/** The boundary cases of promises 13 to 21: what is told of tickets, codes, readers, who is inside, and counts. */
final class DoorBoundaries extends Boundary {
    private static final int NONE = -1;
    private static final int LEAST = Integer.MIN_VALUE;
    private static final int GREATEST = Integer.MAX_VALUE;

    static void all() {
        about();
        code();
        codeDigits();
        whose();
        read();
        readTimes();
        readWrong();
        join();
        twice();
        twiceOrder();
        leaves();
        leavesAgain();
        leavesWrong();
        inside();
        insideKnown();
        insideWrong();
        count();
    }

    private static String codeOf(SlotTickets x, int ticket) {
        StringBuilder digits = new StringBuilder();
        for (int i = 0; i < 6; i++) {
            digits.append(x.code(ticket, i));
        }
        return digits.toString();
    }

    private static String doubleOf(SlotTickets x, int k) {
        return x.twice(k, 0) + "/" + x.twice(k, 1) + "/" + x.twice(k, 2);
    }

    private static void about() {
        holds(13, "Of a ticket: 0 its slot", "the first and the last slot", x -> {
            slots(x, 1, 1, 1, 1, 1, 1, 1, 1);
            x.sell(0, 1, 0);
            x.sell(7, 1, 0);
            is(0, x.about(0, 0));
            is(7, x.about(1, 0));
        });
        holds(13, "1 its guests", "1 and 9", x -> {
            x.slot(10);
            x.sell(0, 1, 0);
            x.sell(0, 9, 0);
            is(1, x.about(0, 1));
            is(9, x.about(1, 1));
        });
        holds(13, "2 its kind", "0 and 4", x -> {
            x.slot(2);
            x.sell(0, 1, 0);
            x.sell(0, 1, 4);
            is(0, x.about(0, 2));
            is(4, x.about(1, 2));
        });
        holds(13, "3 whether it was given back (1) or not (0)", "before and behind, and all else stays", x -> {
            slots(x, 5, 5);
            x.sell(1, 3, 2);
            is(0, x.about(0, 3));
            x.back(0);
            is(1, x.about(0, 3));
            is("1 3 2", x.about(0, 0) + " " + x.about(0, 1) + " " + x.about(0, 2));
        });
        holds(13, "3 whether it was given back (1) or not (0)", "a ticket let in cannot be", x -> {
            x.slot(5);
            x.sell(0, 1, 0);
            x.read(0, 0, 0);
            x.back(0);
            is(0, x.about(0, 3));
        });
        holds(13, "IndexOutOfBoundsException", "no such ticket", x -> {
            x.slot(5);
            index(() -> x.about(0, 0));
            x.sell(0, 1, 0);
            index(() -> x.about(1, 0));
            index(() -> x.about(-1, 0));
            index(() -> x.about(60, 3));
            index(() -> x.about(LEAST, 0));
            index(() -> x.about(GREATEST, 0));
        });
        holds(13, "IndexOutOfBoundsException", "-1, 4 and beyond", x -> {
            x.slot(5);
            x.sell(0, 1, 0);
            index(() -> x.about(0, -1));
            index(() -> x.about(0, 4));
            index(() -> x.about(0, LEAST));
            index(() -> x.about(0, GREATEST));
        });
    }

    private static void code() {
        holds(14, "Digit i of a ticket's code, 0 the first", "the first and the last digit", x -> {
            x.slot(1);
            x.sell(0, 1, 0);
            is(1, x.code(0, 0));
            is(3, x.code(0, 5));
            is("123453", codeOf(x, 0));
        });
        holds(14, "Digit i of a ticket's code, 0 the first", "a ticket that was given back", x -> {
            x.slot(1);
            x.sell(0, 1, 0);
            x.back(0);
            is("123453", codeOf(x, 0));
        });
        holds(14, "A CODE has six digits", "no digit behind the check, none ahead of the first", x -> {
            x.slot(1);
            x.sell(0, 1, 0);
            index(() -> x.code(0, 6));
            index(() -> x.code(0, -1));
        });
        holds(14, "IndexOutOfBoundsException", "no such ticket", x -> {
            x.slot(1);
            index(() -> x.code(0, 0));
            x.sell(0, 1, 0);
            index(() -> x.code(1, 0));
            index(() -> x.code(-1, 0));
            index(() -> x.code(60, 0));
            index(() -> x.code(LEAST, 0));
            index(() -> x.code(GREATEST, 0));
        });
        holds(14, "IndexOutOfBoundsException", "digits far beyond", x -> {
            x.slot(1);
            x.sell(0, 1, 0);
            index(() -> x.code(0, LEAST));
            index(() -> x.code(0, GREATEST));
        });
    }

    private static void codeDigits() {
        String five = "the five of (7919 * ticket + 31 * slot + 12345) % 100000";
        String check = "and the CHECK: so that 3 times the first, 7 times the second, 1 times the third, 3 times the "
            + "fourth, 7 times the fifth and the check make a multiple of ten";
        holds(14, five, "the last below 100000, and the first beyond it", x -> {
            slots(x, 20, 20);
            sellOnes(x, 11);
            x.sell(1, 1, 0);
            x.sell(1, 1, 0);
            // 99485 and 107404
            is("994857", codeOf(x, 11));
            is("074049", codeOf(x, 12));
        });
        holds(14, five, "the last ticket of the last slot", x -> {
            slots(x, 20, 20, 20, 1, 1, 1, 1, 1);
            sellOnes(x, 59);
            x.sell(7, 1, 0);
            // 467221 + 217 + 12345 = 479783
            is("797834", codeOf(x, 59));
        });
        holds(14, "the first one first", "noughts ahead are digits, too", x -> {
            slots(x, 20, 20, 20);
            sellOnes(x, 50);
            // 7919 * 49 + 62 + 12345 = 400438
            is("004381", codeOf(x, 49));
            is(0, x.code(49, 0));
            is(0, x.code(49, 1));
            is(4, x.code(49, 2));
        });
        holds(14, check, "nothing is wanting: 0, not 10", x -> {
            slots(x, 1, 1, 1);
            x.sell(2, 1, 0);
            // 12407: 3 + 14 + 4 + 0 + 49 = 70
            is("124070", codeOf(x, 0));
        });
        holds(14, check, "one and nine are wanting", x -> {
            slots(x, 20, 20, 20);
            sellOnes(x, 60);
            // 7919 * 14 + 12345 = 123211: 6 + 21 + 2 + 3 + 7 = 39
            is("232111", codeOf(x, 14));
            // 7919 * 13 + 12345 = 115292: 3 + 35 + 2 + 27 + 14 = 81
            is("152929", codeOf(x, 13));
        });
    }

    private static void whose() {
        String six = "The ticket of a code of six digits, by its check and then all of its digits";
        holds(15, six, "the first and the last of sixty", x -> {
            slots(x, 20, 20, 20);
            sellOnes(x, 60);
            is(0, x.whose(123453));
            is(59, x.whose(796288));
        });
        holds(15, six, "noughts ahead are left out of the number", x -> {
            slots(x, 20, 20, 20);
            sellOnes(x, 50);
            is(49, x.whose(4381));
            is(12, x.whose(73736));
        });
        holds(15, six, "each wrong check", x -> {
            x.slot(1);
            x.sell(0, 1, 0);
            for (int check = 0; check < 10; check++) {
                is(check == 3 ? 0 : NONE, x.whose(123450 + check));
            }
        });
        holds(15, six, "a good check, but another digit", x -> {
            x.slot(1);
            x.sell(0, 1, 0);
            // 7 * 6 for 7 * 5, and 6 for 3
            is(NONE, x.whose(123466));
            // The first digit and the fourth change, and their check does not.
            is(NONE, x.whose(223353));
        });
        holds(15, six, "more than six digits, and less than none", x -> {
            x.slot(1);
            x.sell(0, 1, 0);
            is(NONE, x.whose(1123453));
            is(NONE, x.whose(1000000));
            is(NONE, x.whose(-123453));
            is(NONE, x.whose(-1));
            is(NONE, x.whose(GREATEST));
            is(NONE, x.whose(LEAST));
        });
        holds(15, "(one that was given back, too)", "it is found", x -> {
            x.slot(1);
            x.sell(0, 1, 0);
            x.back(0);
            is(0, x.whose(123453));
        });
        holds(15, "NONE", "it is -1", x -> {
            is(-1, SlotTickets.NONE);
            is(-1, x.whose(123453));
        });
        holds(15, "NONE", "no ticket at all, and a code of a ticket that is not sold yet", x -> {
            is(NONE, x.whose(123453));
            slots(x, 2, 2);
            x.sell(0, 1, 0);
            is(NONE, x.whose(202646));
            x.sell(0, 1, 0);
            is(1, x.whose(202646));
        });
        holds(15, "NONE", "the code of that ticket in another slot", x -> {
            slots(x, 1, 1);
            x.sell(1, 1, 0);
            is(NONE, x.whose(123453));
            is(0, x.whose(123767));
        });
        holds(15, "NONE", "0 and 999999", x -> {
            slots(x, 20, 20, 20);
            sellOnes(x, 60);
            is(NONE, x.whose(0));
            is(NONE, x.whose(999999));
        });
    }

    private static void read() {
        holds(16, "A reader lets a ticket in at a second: 1", "each reader", x -> {
            x.slot(6);
            x.sell(0, 1, 0);
            for (int reader = 0; reader < 6; reader++) {
                is(1, x.read(reader, 0, 0));
            }
        });
        holds(16, "READERS are 0 .. 5", "-1, 6 and beyond", x -> {
            x.slot(6);
            x.sell(0, 1, 0);
            index(() -> x.read(-1, 0, 0));
            index(() -> x.read(6, 0, 0));
            index(() -> x.read(LEAST, 0, 0));
            index(() -> x.read(GREATEST, 0, 0));
        });
        holds(16, "each lets a ticket in once", "another ticket by the same reader", x -> {
            x.slot(6);
            x.sell(0, 1, 0);
            x.sell(0, 1, 0);
            is(1, x.read(0, 0, 0));
            is(0, x.read(0, 0, 1));
            is(1, x.read(0, 1, 1));
        });
        holds(16, "0 if it did so before", "at an earlier, the same and a later second", x -> {
            x.slot(6);
            x.sell(0, 1, 0);
            is(1, x.read(0, 0, 500));
            is(0, x.read(0, 0, 499));
            is(0, x.read(0, 0, 500));
            is(0, x.read(0, 0, 501));
            x.join();
            is(0, x.inside(499));
            is(1, x.inside(500));
        });
        holds(16, "0 if it did so before", "too early or too late, too", x -> {
            slots(x, 6, 6);
            x.sell(1, 1, 0);
            is(1, x.read(0, 0, 3600));
            is(0, x.read(0, 0, 3599));
            is(0, x.read(0, 0, 4501));
        });
        holds(16, "0 if it did so before", "joined and gone out since", x -> {
            x.slot(6);
            x.sell(0, 1, 0);
            x.read(0, 0, 0);
            x.join();
            x.leaves(0, 1);
            is(0, x.read(0, 0, 2));
        });
        holds(16, "0 if it did so before", "what it did not let in does not count", x -> {
            slots(x, 6, 6);
            x.sell(1, 1, 0);
            is(3, x.read(0, 0, 3599));
            is(4, x.read(0, 0, 4501));
            is(1, x.read(0, 0, 3600));
        });
        holds(16, "knowing nothing of others", "behind another reader, joined or not, at the same second", x -> {
            x.slot(6);
            x.sell(0, 1, 0);
            is(1, x.read(0, 0, 5));
            is(1, x.read(1, 0, 5));
            x.join();
            is(1, x.read(2, 0, 5));
        });
        holds(16, "2 if it was given back", "in time, too early and too late", x -> {
            slots(x, 6, 6);
            x.sell(1, 1, 0);
            x.back(0);
            is(2, x.read(0, 0, 3600));
            is(2, x.read(0, 0, 3599));
            is(2, x.read(0, 0, 4501));
            is(2, x.read(0, 0, 3600));
            is(0, x.join());
            is(0, x.inside(100000));
        });
    }

    private static void readTimes() {
        holds(16, "3 if the slot has not begun", "one second ahead, and the second itself", x -> {
            slots(x, 6, 6);
            x.sell(1, 1, 0);
            is(3, x.read(0, 0, 0));
            is(3, x.read(0, 0, 3599));
            is(1, x.read(0, 0, 3600));
        });
        holds(16, "4 if it began more than 900 seconds before", "901 seconds, and 900", x -> {
            slots(x, 6, 6);
            x.sell(0, 1, 0);
            x.sell(1, 1, 0);
            is(4, x.read(0, 0, 901));
            is(1, x.read(0, 0, 900));
            is(4, x.read(0, 1, 100000));
            is(4, x.read(0, 1, 4501));
            is(1, x.read(0, 1, 4500));
        });
        holds(16, "slot k begins at second 3600 * k", "the first and the last slot", x -> {
            slots(x, 1, 1, 1, 1, 1, 1, 1, 1);
            x.sell(0, 1, 0);
            x.sell(7, 1, 0);
            is(1, x.read(0, 0, 0));
            is(3, x.read(0, 1, 25199));
            is(1, x.read(0, 1, 25200));
            is(4, x.read(1, 1, 26101));
            is(1, x.read(1, 1, 26100));
        });
        holds(16, "3 if the slot has not begun", "none is let in by it, nor by 4", x -> {
            slots(x, 1, 1);
            x.sell(1, 1, 0);
            x.read(0, 0, 3599);
            x.read(1, 0, 4501);
            is(0, x.join());
            is(0, x.inside(100000));
            is(false, x.leaves(0, 100000));
        });
    }

    private static void readWrong() {
        String second = "IllegalArgumentException: second is not 0 .. 100000";
        holds(16, "IndexOutOfBoundsException", "no such ticket", x -> {
            x.slot(1);
            index(() -> x.read(0, 0, 0));
            x.sell(0, 1, 0);
            index(() -> x.read(0, 1, 0));
            index(() -> x.read(0, -1, 0));
            index(() -> x.read(0, 60, 0));
            index(() -> x.read(0, LEAST, 0));
            index(() -> x.read(0, GREATEST, 0));
        });
        holds(16, "IndexOutOfBoundsException", "and a wrong second", x -> {
            x.slot(1);
            x.sell(0, 1, 0);
            index(() -> x.read(6, 0, -1));
            index(() -> x.read(0, 1, 100001));
        });
        holds(16, second, "0 and 100000", x -> {
            x.slot(1);
            x.sell(0, 1, 0);
            is(4, x.read(0, 0, 100000));
            is(1, x.read(0, 0, 0));
        });
        holds(16, second, "-1, 100001 and beyond", x -> {
            x.slot(1);
            x.sell(0, 1, 0);
            argument(() -> x.read(0, 0, -1));
            argument(() -> x.read(0, 0, 100001));
            argument(() -> x.read(0, 0, LEAST));
            argument(() -> x.read(0, 0, GREATEST));
        });
        holds(16, second, "of a ticket that was let in, or given back", x -> {
            x.slot(2);
            x.sell(0, 1, 0);
            x.sell(0, 1, 0);
            x.read(0, 0, 0);
            x.back(1);
            argument(() -> x.read(0, 0, -1));
            argument(() -> x.read(0, 1, 100001));
        });
    }

    private static void join() {
        String doubles = "Readers are joined: how many doubles there are";
        String first = "of a ticket that several let in the first one counts (the lowest second, of equal ones the "
            + "lowest reader)";
        holds(17, doubles, "none let in, one let in once", x -> {
            is(0, x.join());
            x.slot(1);
            x.sell(0, 1, 0);
            is(0, x.join());
            x.read(0, 0, 0);
            is(0, x.join());
        });
        holds(17, doubles, "two readers, and all six", x -> {
            x.slot(1);
            x.sell(0, 1, 0);
            x.read(0, 0, 0);
            x.read(5, 0, 0);
            is(1, x.join());
            for (int reader = 1; reader < 5; reader++) {
                x.read(reader, 0, 0);
            }
            is(5, x.join());
        });
        holds(17, doubles, "all tickets by all readers", x -> {
            slots(x, 20, 20, 20);
            sellOnes(x, 60);
            for (int entry = 0; entry < 360; entry++) {
                x.read(entry % 6, entry / 6, 3600 * (entry / 120) + 5 - entry % 6);
            }
            is(300, x.join());
            is("59/0/7205", doubleOf(x, 299));
            index(() -> x.twice(300, 0));
        });
        holds(17, "of all that were let in so far", "all joins before it, too", x -> {
            x.slot(1);
            x.sell(0, 1, 0);
            x.read(0, 0, 0);
            x.read(1, 0, 0);
            is(1, x.join());
            is(1, x.join());
            x.read(2, 0, 0);
            is(2, x.join());
        });
        holds(17, "of all that were let in so far", "gone out since", x -> {
            x.slot(1);
            x.sell(0, 1, 0);
            x.read(0, 0, 0);
            x.read(1, 0, 0);
            x.join();
            x.leaves(0, 1);
            is(1, x.join());
        });
        holds(17, "JOINED, all that they let in is known", "not before, and not what comes behind", x -> {
            x.slot(1);
            x.sell(0, 1, 0);
            x.read(0, 0, 7);
            is(0, x.inside(7));
            x.join();
            is(1, x.inside(7));
            x.read(1, 0, 3);
            is(0, x.inside(3));
            x.join();
            is(1, x.inside(3));
        });
        holds(17, first, "the lowest second, though of the highest reader and read last", x -> {
            x.slot(1);
            x.sell(0, 1, 0);
            x.read(0, 0, 8);
            x.read(5, 0, 7);
            x.join();
            is("0/0/8", doubleOf(x, 0));
            is(1, x.inside(7));
            is(0, x.inside(6));
        });
        holds(17, first, "of equal seconds the lowest reader, though read last", x -> {
            x.slot(1);
            x.sell(0, 1, 0);
            x.read(5, 0, 7);
            x.read(1, 0, 7);
            x.join();
            is("0/5/7", doubleOf(x, 0));
        });
        holds(17, "the others are DOUBLES", "the one that counts is none", x -> {
            x.slot(1);
            x.sell(0, 1, 0);
            x.read(2, 0, 7);
            x.read(3, 0, 7);
            x.read(1, 0, 9);
            is(2, x.join());
            is("0/3/7", doubleOf(x, 0));
            is("0/1/9", doubleOf(x, 1));
        });
    }

    private static void twice() {
        String none = "IndexOutOfBoundsException: there is none, or what is none of these";
        holds(18, "The k-th double of the latest join()", "not those of readers since", x -> {
            x.slot(3);
            x.sell(0, 1, 0);
            x.sell(0, 1, 0);
            x.read(0, 1, 1);
            x.read(1, 1, 2);
            index(() -> x.twice(0, 0));
            x.join();
            x.read(0, 0, 1);
            x.read(1, 0, 2);
            x.read(2, 1, 0);
            is("1/1/2", doubleOf(x, 0));
            index(() -> x.twice(1, 0));
            is(3, x.join());
            is("0/1/2", doubleOf(x, 0));
            is("1/0/1", doubleOf(x, 1));
            is("1/1/2", doubleOf(x, 2));
        });
        holds(18, "0 the ticket, 1 the reader, 2 the second", "the least of each, and greater ones", x -> {
            slots(x, 2, 1);
            x.sell(0, 1, 0);
            x.sell(1, 1, 0);
            x.read(0, 0, 0);
            x.read(1, 0, 0);
            x.read(4, 1, 3600);
            x.read(5, 1, 4500);
            x.join();
            is(0, x.twice(0, 0));
            is(1, x.twice(0, 1));
            is(0, x.twice(0, 2));
            is(1, x.twice(1, 0));
            is(5, x.twice(1, 1));
            is(4500, x.twice(1, 2));
        });
        holds(18, none, "no join yet, and a join without doubles", x -> {
            index(() -> x.twice(0, 0));
            x.slot(1);
            x.sell(0, 1, 0);
            x.read(0, 0, 0);
            x.join();
            index(() -> x.twice(0, 0));
        });
        holds(18, none, "k: -1, the next one, and beyond", x -> {
            x.slot(1);
            x.sell(0, 1, 0);
            x.read(0, 0, 0);
            x.read(1, 0, 0);
            x.join();
            index(() -> x.twice(-1, 0));
            index(() -> x.twice(1, 0));
            index(() -> x.twice(300, 0));
            index(() -> x.twice(LEAST, 0));
            index(() -> x.twice(GREATEST, 0));
        });
        holds(18, none, "what: -1, 3 and beyond", x -> {
            x.slot(1);
            x.sell(0, 1, 0);
            x.read(0, 0, 0);
            x.read(1, 0, 0);
            x.join();
            index(() -> x.twice(0, -1));
            index(() -> x.twice(0, 3));
            index(() -> x.twice(0, LEAST));
            index(() -> x.twice(0, GREATEST));
        });
    }

    private static void twiceOrder() {
        String order = "by tickets, then seconds, then readers";
        holds(18, order, "tickets ahead of seconds", x -> {
            x.slot(2);
            x.sell(0, 1, 0);
            x.sell(0, 1, 0);
            x.read(0, 1, 0);
            x.read(1, 1, 1);
            x.read(0, 0, 800);
            x.read(1, 0, 900);
            x.join();
            is("0/1/900", doubleOf(x, 0));
            is("1/1/1", doubleOf(x, 1));
        });
        holds(18, order, "seconds ahead of readers", x -> {
            x.slot(1);
            x.sell(0, 1, 0);
            x.read(0, 0, 4);
            x.read(1, 0, 3);
            x.read(4, 0, 2);
            x.read(5, 0, 1);
            x.join();
            is("0/4/2", doubleOf(x, 0));
            is("0/1/3", doubleOf(x, 1));
            is("0/0/4", doubleOf(x, 2));
        });
        holds(18, order, "readers of equal seconds", x -> {
            x.slot(1);
            x.sell(0, 1, 0);
            x.read(5, 0, 7);
            x.read(3, 0, 7);
            x.read(4, 0, 7);
            x.read(0, 0, 7);
            x.join();
            is("0/3/7", doubleOf(x, 0));
            is("0/4/7", doubleOf(x, 1));
            is("0/5/7", doubleOf(x, 2));
        });
    }

    private static void leaves() {
        String known = "whether the ticket was let in by then, as known by the latest join()";
        holds(19, "A ticket's guests go out at a second", "all of the group", x -> {
            x.slot(9);
            x.sell(0, 9, 0);
            x.read(0, 0, 0);
            x.join();
            is(true, x.leaves(0, 10));
            is(0, x.inside(10));
        });
        holds(19, known, "the second itself, and the one ahead of it", x -> {
            x.slot(9);
            x.sell(0, 9, 0);
            x.read(0, 0, 5);
            x.join();
            is(false, x.leaves(0, 4));
            is(true, x.leaves(0, 5));
        });
        holds(19, known, "second 0 and second 100000", x -> {
            x.slot(9);
            x.sell(0, 1, 0);
            x.sell(0, 1, 0);
            x.read(0, 0, 0);
            x.read(0, 1, 0);
            x.join();
            is(true, x.leaves(0, 0));
            is(true, x.leaves(1, 100000));
        });
        holds(19, known, "never let in", x -> {
            x.slot(9);
            x.sell(0, 1, 0);
            x.join();
            is(false, x.leaves(0, 100000));
        });
        holds(19, known, "let in, but not joined since", x -> {
            x.slot(9);
            x.sell(0, 1, 0);
            x.sell(0, 1, 0);
            x.read(0, 0, 5);
            is(false, x.leaves(0, 6));
            x.join();
            x.read(0, 1, 5);
            is(false, x.leaves(1, 6));
            is(true, x.leaves(0, 6));
        });
        holds(19, known, "an earlier second of another reader, before and behind the join", x -> {
            x.slot(9);
            x.sell(0, 1, 0);
            x.read(0, 0, 5);
            x.join();
            x.read(1, 0, 3);
            is(false, x.leaves(0, 3));
            x.join();
            is(false, x.leaves(0, 2));
            is(true, x.leaves(0, 3));
        });
    }

    private static void leavesAgain() {
        String before = "and did not go out before";
        holds(19, before, "twice, at a later, the same and an earlier second", x -> {
            x.slot(9);
            x.sell(0, 1, 0);
            x.read(0, 0, 5);
            x.join();
            is(true, x.leaves(0, 10));
            is(false, x.leaves(0, 11));
            is(false, x.leaves(0, 10));
            is(false, x.leaves(0, 9));
        });
        holds(19, before, "the first time stays", x -> {
            x.slot(9);
            x.sell(0, 1, 0);
            x.read(0, 0, 5);
            x.join();
            x.leaves(0, 10);
            x.leaves(0, 20);
            is(0, x.inside(10));
            x.leaves(0, 7);
            is(1, x.inside(9));
        });
        holds(19, before, "a call that answered false is no going out", x -> {
            x.slot(9);
            x.sell(0, 1, 0);
            is(false, x.leaves(0, 5));
            x.read(0, 0, 5);
            is(false, x.leaves(0, 5));
            x.join();
            is(false, x.leaves(0, 4));
            is(1, x.inside(5));
            is(true, x.leaves(0, 5));
        });
        holds(19, before, "another reader and another join do not bring it in again", x -> {
            x.slot(9);
            x.sell(0, 1, 0);
            x.read(0, 0, 5);
            x.join();
            x.leaves(0, 10);
            x.read(1, 0, 20);
            x.join();
            is(0, x.inside(30));
            is(false, x.leaves(0, 30));
        });
        holds(19, before, "another ticket did", x -> {
            x.slot(9);
            x.sell(0, 1, 0);
            x.sell(0, 1, 0);
            x.read(0, 0, 5);
            x.read(0, 1, 5);
            x.join();
            is(true, x.leaves(0, 10));
            is(true, x.leaves(1, 10));
        });
    }

    private static void leavesWrong() {
        holds(19, "IndexOutOfBoundsException", "no such ticket", x -> {
            x.slot(9);
            index(() -> x.leaves(0, 0));
            x.sell(0, 1, 0);
            index(() -> x.leaves(1, 0));
            index(() -> x.leaves(-1, 0));
            index(() -> x.leaves(60, 0));
            index(() -> x.leaves(LEAST, 0));
            index(() -> x.leaves(GREATEST, 0));
        });
        holds(19, "IndexOutOfBoundsException", "and a wrong second", x -> {
            index(() -> x.leaves(0, -1));
            index(() -> x.leaves(-1, 100001));
        });
        holds(19, "IllegalArgumentException: second", "-1, 100001 and beyond", x -> {
            x.slot(9);
            x.sell(0, 1, 0);
            x.read(0, 0, 0);
            x.join();
            argument(() -> x.leaves(0, -1));
            argument(() -> x.leaves(0, 100001));
            argument(() -> x.leaves(0, LEAST));
            argument(() -> x.leaves(0, GREATEST));
            is(1, x.inside(100000));
        });
        holds(19, "IllegalArgumentException: second", "of a ticket that is not in", x -> {
            x.slot(9);
            x.sell(0, 1, 0);
            argument(() -> x.leaves(0, -1));
            argument(() -> x.leaves(0, 100001));
        });
    }

    private static void inside() {
        holds(20, "How many guests are inside at a second", "guests, not tickets; none, one and all", x -> {
            slots(x, 20);
            x.sell(0, 9, 0);
            x.sell(0, 1, 0);
            x.sell(0, 9, 0);
            x.join();
            is(0, x.inside(100000));
            x.read(0, 1, 0);
            x.join();
            is(1, x.inside(100000));
            x.read(0, 0, 0);
            x.read(0, 2, 0);
            x.join();
            is(19, x.inside(100000));
        });
        holds(20, "How many guests are inside at a second", "the guests of sixty tickets", x -> {
            slots(x, 20, 20, 20);
            sellOnes(x, 60);
            for (int ticket = 0; ticket < 60; ticket++) {
                x.read(0, ticket, 3600 * (ticket / 20));
            }
            x.join();
            is(20, x.inside(0));
            is(60, x.inside(7200));
        });
        holds(20, "How many guests are inside at a second", "doubles count once", x -> {
            x.slot(9);
            x.sell(0, 9, 0);
            for (int reader = 0; reader < 6; reader++) {
                x.read(reader, 0, reader);
            }
            x.join();
            is(9, x.inside(0));
            is(9, x.inside(5));
        });
        holds(20, "let in not behind it", "the second itself, and the one ahead of it", x -> {
            x.slot(9);
            x.sell(0, 2, 0);
            x.read(0, 0, 100);
            x.join();
            is(0, x.inside(99));
            is(2, x.inside(100));
            is(2, x.inside(101));
        });
        holds(20, "let in not behind it", "second 0 and second 100000", x -> {
            x.slot(9);
            x.sell(0, 2, 0);
            x.read(0, 0, 0);
            x.join();
            is(2, x.inside(0));
            is(2, x.inside(100000));
        });
        holds(20, "and not gone out by then", "the second itself, and the one ahead of it", x -> {
            x.slot(9);
            x.sell(0, 2, 0);
            x.read(0, 0, 100);
            x.join();
            x.leaves(0, 200);
            is(2, x.inside(199));
            is(0, x.inside(200));
            is(0, x.inside(201));
            is(0, x.inside(100000));
        });
        holds(20, "and not gone out by then", "in and out at one second", x -> {
            x.slot(9);
            x.sell(0, 2, 0);
            x.read(0, 0, 100);
            x.join();
            x.leaves(0, 100);
            is(0, x.inside(99));
            is(0, x.inside(100));
            is(0, x.inside(101));
        });
        holds(20, "and not gone out by then", "out at second 0", x -> {
            x.slot(9);
            x.sell(0, 2, 0);
            x.read(0, 0, 0);
            x.join();
            x.leaves(0, 0);
            is(0, x.inside(0));
        });
    }

    private static void insideKnown() {
        holds(20, "as known by the latest join()", "no join, and what was let in since", x -> {
            x.slot(9);
            x.sell(0, 2, 0);
            x.sell(0, 3, 0);
            x.read(0, 0, 0);
            is(0, x.inside(0));
            x.join();
            x.read(0, 1, 0);
            is(2, x.inside(0));
            x.join();
            is(5, x.inside(0));
        });
        holds(20, "as known by the latest join()", "an earlier second behind a new join, gone out already", x -> {
            x.slot(9);
            x.sell(0, 2, 0);
            x.read(0, 0, 100);
            x.join();
            x.leaves(0, 200);
            x.read(1, 0, 50);
            is(0, x.inside(50));
            x.join();
            is(2, x.inside(50));
            is(0, x.inside(200));
        });
    }

    private static void insideWrong() {
        holds(20, "IllegalArgumentException: second", "-1, 100001 and beyond", x -> {
            argument(() -> x.inside(-1));
            argument(() -> x.inside(100001));
            argument(() -> x.inside(LEAST));
            argument(() -> x.inside(GREATEST));
        });
        holds(20, "IllegalArgumentException: second", "0 and 100000", x -> {
            is(0, x.inside(0));
            is(0, x.inside(100000));
        });
    }

    private static void count() {
        holds(21, "0 slots", "none and eight", x -> {
            is(0, x.count(0));
            slots(x, 1, 1, 1, 1, 1, 1, 1, 1);
            is(8, x.count(0));
        });
        holds(21, "1 tickets", "none and sixty", x -> {
            slots(x, 20, 20, 20);
            is(0, x.count(1));
            sellOnes(x, 60);
            is(60, x.count(1));
        });
        holds(21, "1 tickets", "those given back are tickets, those refused are none", x -> {
            x.slot(1);
            x.sell(0, 1, 0);
            x.sell(0, 1, 0);
            x.back(0);
            is(1, x.count(1));
        });
        holds(21, "2 requests that wait", "none and thirty", x -> {
            x.slot(1);
            is(0, x.count(2));
            for (int i = 0; i < 30; i++) {
                x.waits(0, 1, 0);
            }
            is(30, x.count(2));
        });
        holds(21, "2 requests that wait", "not those that got a ticket, be it given back or not", x -> {
            x.slot(1);
            x.sell(0, 1, 0);
            x.waits(0, 1, 0);
            x.waits(0, 2, 0);
            x.back(0);
            is(1, x.count(2));
            x.back(1);
            is(1, x.count(2));
        });
        holds(21, "3 clauses", "none, eight, and none again", x -> {
            is(0, x.count(3));
            rules(x, "0=1,1=1,2=1,3=1,4=1,0=1,1=1,2=1");
            is(8, x.count(3));
            rules(x, "x");
            is(8, x.count(3));
            x.rules();
            is(0, x.count(3));
        });
        holds(21, "4 signs of the collected text", "none, sixty, and none again", x -> {
            is(0, x.count(4));
            type(x, "0".repeat(60));
            is(60, x.count(4));
            x.rules();
            is(0, x.count(4));
        });
        holds(21, "IndexOutOfBoundsException: none of these", "-1, 5 and beyond", x -> {
            index(() -> x.count(-1));
            index(() -> x.count(5));
            index(() -> x.count(LEAST));
            index(() -> x.count(GREATEST));
        });
    }
}
