/** The boundary cases of promises 1 to 5: a new object, slots, what is told of them, their most and their odds. */
final class SlotBoundaries extends Boundary {
    private static final int LEAST = Integer.MIN_VALUE;
    private static final int GREATEST = Integer.MAX_VALUE;

    static void all() {
        newObject();
        manyCalls();
        slot();
        over();
        overNumbers();
        most();
        mostExactly();
        odds();
        oddsNumbers();
        oddsWrong();
    }

    private static void newObject() {
        holds(1, "Nothing", "nothing is counted", x -> {
            for (int what = 0; what < 5; what++) {
                is(0, x.count(what));
            }
        });
        holds(1, "Nothing", "no slot, ticket, request or double is there", x -> {
            index(() -> x.most(0));
            index(() -> x.sell(0, 1, 0));
            index(() -> x.back(0));
            index(() -> x.given(0));
            index(() -> x.price(0));
            index(() -> x.about(0, 0));
            index(() -> x.code(0, 0));
            index(() -> x.read(0, 0, 0));
            index(() -> x.twice(0, 0));
            index(() -> x.leaves(0, 0));
        });
        holds(1, "Nothing", "nobody is inside, no code is known, no text is collected", x -> {
            is(0, x.inside(0));
            is(0, x.inside(100000));
            is(-1, x.whose(123453));
            is(0, x.join());
            is(0, x.rules());
        });
        holds(1, "Nothing", "two objects have nothing in common", x -> {
            SlotTickets other = new SlotTickets();
            other.slot(3);
            other.sell(0, 3, 0);
            other.unit('0');
            is(0, x.count(0) + x.count(1) + x.count(4));
        });
    }

    private static void manyCalls() {
        holds(1, "An object is used for at most 512 calls after it has been made", "the 512th call", x -> {
            x.slot(20);
            x.sell(0, 9, 0);
            for (int call = 3; call < 512; call++) {
                x.over(0, call % 17, 16, call % 1001, 1000);
            }
            is(9, x.about(0, 1));
        });
        holds(1, "what later calls answer is free", "but they throw nothing that the document does not name", x -> {
            for (int call = 0; call < 2000; call++) {
                int n = call;
                quietly(() -> x.slot(n % 22));
                quietly(() -> x.over(n % 9, n % 3, n % 17, n % 5, n % 1001));
                quietly(() -> x.sell(n % 9, n % 11, n % 6));
                quietly(() -> x.waits(n % 8, n % 10, n % 5));
                quietly(() -> x.unit(33 + n % 94));
                quietly(() -> x.read(n % 7, n % 61, n * 13));
                quietly(() -> x.leaves(n % 61, n * 14));
                quietly(() -> x.join());
                quietly(() -> x.twice(n % 301, n % 4));
                quietly(() -> x.back(n % 61));
            }
        });
    }

    private static void quietly(Runnable call) {
        try {
            call.run();
        } catch (RuntimeException e) {
            boolean named = e.getClass() == IndexOutOfBoundsException.class
                || e.getClass() == IllegalStateException.class || e.getClass() == IllegalArgumentException.class;
            is(true, named);
        }
    }

    private static void slot() {
        holds(2, "A slot: its number", "the first and the last", x -> {
            is(0, x.slot(5));
            slots(x, 5, 5, 5, 5, 5, 5);
            is(7, x.slot(5));
        });
        holds(2, "SLOTS are 0 .. 7", "none ahead of 0, none behind the latest, none behind 7", x -> {
            slots(x, 1, 2, 3, 4, 5, 6, 7);
            index(() -> x.most(-1));
            index(() -> x.most(7));
            x.slot(8);
            is(1, x.most(0));
            is(8, x.most(7));
            index(() -> x.most(8));
        });
        holds(2, "IllegalStateException: there are eight", "the ninth slot", x -> {
            slots(x, 1, 1, 1, 1, 1, 1, 1, 1);
            state(() -> x.slot(1));
            state(() -> x.slot(20));
            is(8, x.count(0));
        });
        holds(2, "IllegalStateException, then IllegalArgumentException, as told", "the ninth slot, wrong places", x -> {
            slots(x, 1, 1, 1, 1, 1, 1, 1, 1);
            state(() -> x.slot(0));
            state(() -> x.slot(21));
        });
        holds(2, "each with PLACES 1 .. 20", "the fewest and the most places", x -> {
            is(0, x.slot(1));
            is(1, x.slot(20));
            is(1, x.most(0));
            is(20, x.most(1));
        });
        holds(2, "IllegalArgumentException: places", "too few", x -> {
            argument(() -> x.slot(0));
            argument(() -> x.slot(-1));
            argument(() -> x.slot(LEAST));
            is(0, x.count(0));
        });
        holds(2, "IllegalArgumentException: places", "too many", x -> {
            argument(() -> x.slot(21));
            argument(() -> x.slot(GREATEST));
            is(0, x.count(0));
        });
    }

    private static void over() {
        holds(3, "What is told of a slot's guests and risk", "what was told before is gone", x -> {
            x.slot(3);
            x.over(0, 0, 16, 1000, 1000);
            x.over(0, 1, 1, 0, 1);
            is(3, x.most(0));
            is(1, x.odds(0, 4, 0));
        });
        holds(3, "What is told of a slot's guests and risk", "other slots are not told of", x -> {
            slots(x, 3, 3, 3);
            noneComes(x, 1);
            is(3, x.most(0));
            is(11, x.most(1));
            is(3, x.most(2));
            is(1, x.odds(0, 4, 0));
            is(0, x.odds(1, 4, 0));
        });
        holds(3, "IndexOutOfBoundsException", "no such slot", x -> {
            x.slot(1);
            index(() -> x.over(-1, 1, 1, 0, 1));
            index(() -> x.over(1, 1, 1, 0, 1));
            index(() -> x.over(8, 1, 1, 0, 1));
            index(() -> x.over(LEAST, 1, 1, 0, 1));
            index(() -> x.over(GREATEST, 1, 1, 0, 1));
        });
        holds(3, "IndexOutOfBoundsException", "no such slot, and a wrong number", x -> {
            index(() -> x.over(0, -1, 0, -1, 0));
        });
        holds(3, "IllegalArgumentException: a number", "one wrong number among good ones keeps all that was told", x -> {
            x.slot(1);
            x.over(0, 1, 2, 1, 4);
            argument(() -> x.over(0, 0, 1, 1, 0));
            argument(() -> x.over(0, 0, 1, 2, 1));
            argument(() -> x.over(0, 2, 1, 1, 1));
            argument(() -> x.over(0, 0, 17, 1, 1));
            is(2, x.most(0));
            is(1, x.odds(0, 2, 0));
        });
        holds(3, "at first all come, and no risk is borne", "of a new slot", x -> {
            x.slot(20);
            is(20, x.most(0));
            is(0, x.odds(0, 20, 0));
            for (int n = 21; n <= 28; n++) {
                is(1, x.odds(0, n, 0));
                is(0, x.odds(0, n, 1));
            }
        });
    }

    private static void overNumbers() {
        holds(3, "Of a slot it may be told that of BELOW guests (1 .. 16)", "1 and 16", x -> {
            x.slot(1);
            x.over(0, 1, 1, 0, 1);
            is(1, x.odds(0, 2, 0));
            x.over(0, 16, 16, 0, 1);
            is(6, x.odds(0, 2, 0));
            is(5, x.odds(0, 2, 1));
            is(2, x.odds(0, 2, 2));
        });
        holds(3, "Of a slot it may be told that of BELOW guests (1 .. 16)", "0, 17 and beyond", x -> {
            x.slot(1);
            argument(() -> x.over(0, 0, 0, 0, 1));
            argument(() -> x.over(0, 1, 17, 0, 1));
            argument(() -> x.over(0, 0, -1, 0, 1));
            argument(() -> x.over(0, -1, -1, 0, 1));
            argument(() -> x.over(0, LEAST, LEAST, 0, 1));
            argument(() -> x.over(0, 1, GREATEST, 0, 1));
        });
        holds(3, "ABOVE come (0 .. below)", "0 and below", x -> {
            x.slot(2);
            x.over(0, 0, 7, 0, 1);
            is(10, x.most(0));
            x.over(0, 7, 7, 0, 1);
            is(2, x.most(0));
        });
        holds(3, "ABOVE come (0 .. below)", "-1, below and one, and beyond", x -> {
            x.slot(2);
            argument(() -> x.over(0, -1, 7, 0, 1));
            argument(() -> x.over(0, 8, 7, 0, 1));
            argument(() -> x.over(0, LEAST, 7, 0, 1));
            argument(() -> x.over(0, GREATEST, 16, 0, 1));
        });
        holds(3, "and what RISK is borne: riskAbove of riskBelow (0 .. riskBelow", "0 and riskBelow", x -> {
            x.slot(2);
            x.over(0, 1, 2, 0, 9);
            is(2, x.most(0));
            x.over(0, 1, 2, 9, 9);
            is(10, x.most(0));
        });
        holds(3, "and what RISK is borne: riskAbove of riskBelow (0 .. riskBelow", "-1, riskBelow and one", x -> {
            x.slot(2);
            argument(() -> x.over(0, 1, 2, -1, 9));
            argument(() -> x.over(0, 1, 2, 10, 9));
            argument(() -> x.over(0, 1, 2, LEAST, 9));
            argument(() -> x.over(0, 1, 2, 1001, 1000));
            argument(() -> x.over(0, 1, 2, GREATEST, 1000));
        });
        holds(3, "1 .. 1000)", "a risk of 1 and of 1000", x -> {
            x.slot(1);
            x.over(0, 1, 1, 1, 1);
            is(9, x.most(0));
            x.over(0, 1, 1, 1000, 1000);
            is(9, x.most(0));
            x.over(0, 1, 1, 999, 1000);
            is(1, x.most(0));
        });
        holds(3, "1 .. 1000)", "a risk of 0, of 1001 and beyond", x -> {
            x.slot(1);
            argument(() -> x.over(0, 1, 2, 0, 0));
            argument(() -> x.over(0, 1, 2, 0, 1001));
            argument(() -> x.over(0, 1, 2, 0, -1));
            argument(() -> x.over(0, 1, 2, -1, -1));
            argument(() -> x.over(0, 1, 2, 0, LEAST));
            argument(() -> x.over(0, 1, 2, 0, GREATEST));
        });
    }

    private static void most() {
        String from = "THE MOST of a slot is the greatest n, from its places to its places and 8";
        holds(4, "The most of a slot", "each slot has its own", x -> {
            slots(x, 1, 2, 3, 4, 5, 6, 7, 8);
            noneComes(x, 7);
            is(1, x.most(0));
            is(7, x.most(6));
            is(16, x.most(7));
        });
        holds(4, "The most of a slot", "sold guests do not change it", x -> {
            x.slot(9);
            x.sell(0, 9, 0);
            is(9, x.most(0));
        });
        holds(4, "IndexOutOfBoundsException", "no such slot", x -> {
            index(() -> x.most(0));
            slots(x, 1, 1);
            index(() -> x.most(2));
            index(() -> x.most(-1));
            index(() -> x.most(LEAST));
            index(() -> x.most(GREATEST));
        });
        holds(4, from, "never less than the places", x -> {
            slots(x, 1, 20);
            x.over(0, 1, 1, 0, 1);
            x.over(1, 16, 16, 0, 1000);
            is(1, x.most(0));
            is(20, x.most(1));
        });
        holds(4, from, "never more than the places and 8", x -> {
            slots(x, 1, 20);
            x.over(0, 1, 1, 1, 1);
            x.over(1, 0, 16, 0, 1000);
            is(9, x.most(0));
            is(28, x.most(1));
        });
        holds(4, from, "the places and 7", x -> {
            slots(x, 7, 20);
            x.over(0, 8, 16, 499, 1000);
            is(14, x.most(0));
            // 0.99891 for 27 guests, 0.99977 for 28
            x.over(1, 15, 16, 999, 1000);
            is(27, x.most(1));
        });
    }

    private static void mostExactly() {
        String exactly = "such that for none of the numbers from the places to n the odds that more than the places "
            + "come of so many guests are above the risk (exactly)";
        holds(4, exactly, "odds equal to the risk", x -> {
            slots(x, 1, 7, 2);
            x.over(0, 1, 2, 1, 4);
            is(2, x.most(0));
            // Of 15 guests, 8 or more come as often as 7 or less.
            x.over(1, 8, 16, 1, 2);
            is(15, x.most(1));
            x.over(1, 8, 16, 500, 1000);
            is(15, x.most(1));
            // In doubles 0.1 * 0.1 * 0.1 is above 0.001.
            x.over(2, 1, 10, 1, 1000);
            is(3, x.most(2));
        });
        holds(4, exactly, "odds a little above the risk", x -> {
            slots(x, 1, 2, 19);
            x.over(0, 1, 2, 249, 1000);
            is(1, x.most(0));
            x.over(0, 1, 3, 111, 1000);
            is(1, x.most(0));
            x.over(0, 1, 16, 1, 257);
            is(1, x.most(0));
            // About 7.00002 of 16, for 26 guests.
            x.over(2, 11, 15, 7, 16);
            is(25, x.most(2));
        });
        holds(4, exactly, "odds a little below the risk", x -> {
            slots(x, 1, 19);
            x.over(0, 1, 3, 112, 1000);
            is(2, x.most(0));
            // About 947.99995 of 1000, for 25 guests.
            x.over(1, 8, 9, 948, 1000);
            is(25, x.most(1));
            x.over(1, 8, 9, 947, 1000);
            is(24, x.most(1));
        });
        holds(4, exactly, "the least odds that there are, and no risk", x -> {
            x.slot(20);
            x.over(0, 1, 16, 0, 1);
            is(20, x.most(0));
            x.over(0, 1, 16, 1, 1000);
            is(28, x.most(0));
        });
        holds(4, exactly, "odds near to 1, and all risk but for one in 1000", x -> {
            x.slot(1);
            // 0.98877 for 3 guests, 0.99907 for 4
            x.over(0, 15, 16, 999, 1000);
            is(3, x.most(0));
        });
    }

    private static void odds() {
        String digit = "Decimal digit k (0 the last one) of what stands above in the odds";
        String more = "that more than a slot's places come of n guests";
        String notLessened = "with below to the power of n below (not lessened)";
        holds(5, digit, "the last digit, the first one, and those ahead of it", x -> {
            x.slot(1);
            x.over(0, 1, 2, 0, 1);
            // Of 32 ways of 5 guests, one has none and five have one.
            is(6, x.odds(0, 5, 0));
            is(2, x.odds(0, 5, 1));
            is(0, x.odds(0, 5, 2));
            is(0, x.odds(0, 5, 39));
        });
        holds(5, digit, "each digit of the greatest number", x -> {
            x.slot(20);
            x.over(0, 16, 16, 0, 1);
            isNumber("5192296858534827628530496329220096", x, 28);
        });
        holds(5, digit, "each digit of a sum of products", x -> {
            x.slot(20);
            x.over(0, 9, 16, 0, 1);
            isNumber("169842757332132083745278076353634", x, 28);
        });
        holds(5, more, "as many as the places are not more", x -> {
            slots(x, 1, 20);
            is(0, x.odds(0, 1, 0));
            is(0, x.odds(1, 20, 0));
        });
        holds(5, more, "one more than the places", x -> {
            slots(x, 1, 20);
            is(1, x.odds(0, 2, 0));
            is(1, x.odds(1, 21, 0));
        });
        holds(5, more, "none comes", x -> {
            x.slot(1);
            noneComes(x, 0);
            isNumber("0", x, 28);
        });
        holds(5, more, "the places of that slot", x -> {
            slots(x, 2, 3, 4);
            is(1, x.odds(0, 3, 0));
            is(0, x.odds(1, 3, 0));
            is(1, x.odds(1, 4, 0));
            is(0, x.odds(2, 4, 0));
        });
        holds(5, notLessened, "all come: 16 of 16", x -> {
            x.slot(1);
            x.over(0, 16, 16, 0, 1);
            isNumber("4096", x, 3);
        });
        holds(5, notLessened, "2 of 4 is not 1 of 2", x -> {
            x.slot(1);
            x.over(0, 2, 4, 0, 1);
            isNumber("832", x, 5);
            x.over(0, 1, 2, 0, 1);
            isNumber("26", x, 5);
        });
    }

    private static void isNumber(String number, SlotTickets x, int n) {
        for (int k = 0; k < 40; k++) {
            int digit = k < number.length() ? number.charAt(number.length() - 1 - k) - '0' : 0;
            is(digit, x.odds(0, n, k));
        }
    }

    private static void oddsNumbers() {
        holds(5, "each by himself", "one of two comes, but of three guests none to all may come", x -> {
            slots(x, 1, 2, 3);
            x.over(0, 1, 2, 0, 1);
            x.over(1, 1, 2, 0, 1);
            x.over(2, 1, 2, 0, 1);
            is(4, x.odds(0, 3, 0));
            is(1, x.odds(1, 3, 0));
            is(0, x.odds(2, 3, 0));
        });
        holds(5, "each by himself", "unequal shares of those who come and those who do not", x -> {
            x.slot(1);
            // Of 3 guests: 3 * 2 * 2 * 1 ways for two, 2 * 2 * 2 for three.
            x.over(0, 2, 3, 0, 1);
            isNumber("20", x, 3);
        });
        holds(5, "IllegalArgumentException: n is not 0 .. 28", "0 guests", x -> {
            x.slot(1);
            x.over(0, 16, 16, 0, 1);
            isNumber("0", x, 0);
        });
        holds(5, "IllegalArgumentException: n is not 0 .. 28", "28 guests of a slot with one place", x -> {
            x.slot(1);
            x.over(0, 1, 2, 0, 1);
            // 2 ^ 28 - 29
            isNumber("268435427", x, 28);
        });
    }

    private static void oddsWrong() {
        String k = "IndexOutOfBoundsException: slot, or k is not 0 .. 39";
        String n = "IllegalArgumentException: n is not 0 .. 28";
        holds(5, k, "no such slot", x -> {
            index(() -> x.odds(0, 1, 0));
            x.slot(1);
            index(() -> x.odds(-1, 1, 0));
            index(() -> x.odds(1, 1, 0));
            index(() -> x.odds(LEAST, 1, 0));
            index(() -> x.odds(GREATEST, 1, 0));
        });
        holds(5, k, "-1, 40 and beyond", x -> {
            x.slot(1);
            index(() -> x.odds(0, 1, -1));
            index(() -> x.odds(0, 1, 40));
            index(() -> x.odds(0, 1, LEAST));
            index(() -> x.odds(0, 1, GREATEST));
        });
        holds(5, k, "0 and 39", x -> {
            x.slot(1);
            is(1, x.odds(0, 2, 0));
            is(0, x.odds(0, 2, 39));
        });
        holds(5, k, "a wrong slot or digit, and wrong guests", x -> {
            x.slot(1);
            index(() -> x.odds(1, 29, 0));
            index(() -> x.odds(0, 29, 40));
            index(() -> x.odds(0, -1, -1));
        });
        holds(5, n, "-1, 29 and beyond", x -> {
            x.slot(20);
            argument(() -> x.odds(0, -1, 0));
            argument(() -> x.odds(0, 29, 0));
            argument(() -> x.odds(0, LEAST, 0));
            argument(() -> x.odds(0, GREATEST, 39));
        });
    }
}
