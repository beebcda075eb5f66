/** The boundary cases of promises 10 to 12: the collected text, the rules that it becomes, and prices. */
final class RuleBoundaries extends Boundary {
    private static final int LEAST = Integer.MIN_VALUE;
    private static final int GREATEST = Integer.MAX_VALUE;
    private static final String PLACE =
        "-1 minus the place of the first sign that no rules could have there behind those ahead of it";
    private static final String END = "(the length, if only its end is wrong)";
    private static final String DIGITS = "Numbers have one to five digits";

    static void all() {
        unit();
        rules();
        wrongPlaces();
        wrongEnds();
        clauses();
        priceClauses();
        groupClauses();
        numbers();
        groupNumbers();
        price();
        percentages();
    }

    private static void read(int want, String text) {
        SlotTickets x = new SlotTickets();
        int got = rules(x, text);
        if (got != want) {
            throw new AssertionError("rules of '" + text + "' answered " + got + ", due is " + want);
        }
        is(Math.max(0, want), x.count(3));
        is(0, x.count(4));
    }

    private static void unit() {
        holds(10, "A sign behind the collected text: how many it has", "the first and the last", x -> {
            for (int i = 1; i <= 60; i++) {
                is(i, x.unit('0'));
            }
        });
        holds(10, "A sign behind the collected text: how many it has", "in the order of the calls", x -> {
            x.unit('0');
            x.unit('=');
            x.unit('7');
            is(1, x.rules());
        });
        holds(10, "IllegalStateException: there are 60", "the 61st", x -> {
            type(x, "0".repeat(60));
            state(() -> x.unit('0'));
            is(60, x.count(4));
        });
        holds(10, "IllegalStateException: there are 60", "of that text: behind rules() there is room again", x -> {
            type(x, "0".repeat(60));
            x.rules();
            is(1, x.unit('0'));
        });
        holds(10, "IllegalStateException, then IllegalArgumentException, as told", "the 61st, a wrong sign", x -> {
            type(x, "0".repeat(60));
            state(() -> x.unit(32));
            state(() -> x.unit(127));
        });
        holds(10, "IllegalArgumentException: it is not 33 .. 126", "33 and 126", x -> {
            is(1, x.unit(33));
            is(2, x.unit(126));
        });
        holds(10, "IllegalArgumentException: it is not 33 .. 126", "32, 127 and beyond", x -> {
            argument(() -> x.unit(32));
            argument(() -> x.unit(127));
            argument(() -> x.unit(0));
            argument(() -> x.unit(-1));
            argument(() -> x.unit(LEAST));
            argument(() -> x.unit(GREATEST));
            // The sign 0 and 65536 more
            argument(() -> x.unit(65536 + '0'));
            is(0, x.count(4));
        });
    }

    private static void rules() {
        holds(11, "The collected text becomes the rules, in place of the former ones", "fewer clauses", x -> {
            x.slot(2);
            x.sell(0, 2, 3);
            rules(x, "3=10,g2-50");
            is(10, x.price(0));
            is(1, rules(x, "3=4"));
            is(8, x.price(0));
            is(1, x.count(3));
        });
        holds(11, "The collected text becomes the rules, in place of the former ones", "other clauses", x -> {
            x.slot(2);
            x.sell(0, 2, 3);
            rules(x, "3=10");
            is(2, rules(x, "g1-10,2=5"));
            is(0, x.price(0));
        });
        holds(11, "The collected text becomes the rules, in place of the former ones", "an empty text", x -> {
            x.slot(2);
            x.sell(0, 2, 3);
            rules(x, "3=10");
            is(0, x.rules());
            is(0, x.price(0));
            is(0, x.count(3));
        });
        holds(11, "and is empty", "the next text begins anew", x -> {
            is(1, rules(x, "0=1"));
            is(0, x.count(4));
            is(1, x.unit('0'));
        });
        holds(11, "how many clauses", "none, one and eight", x -> {
            read(0, "");
            read(1, "0=1");
            read(8, "0=1,1=1,2=1,3=1,4=1,g1-1,g2-2,g3-3");
        });
        holds(11, "how many clauses", "those of one kind or group count each", x -> {
            read(4, "0=1,0=1,g1-1,g1-1");
        });
        holds(11, "then it is empty, too, but the former rules stay", "a wrong sign", x -> {
            x.slot(2);
            x.sell(0, 2, 3);
            rules(x, "3=10,g2-50");
            is(-6, rules(x, "3=77,9"));
            is(0, x.count(4));
            is(2, x.count(3));
            is(10, x.price(0));
        });
        holds(11, "then it is empty, too, but the former rules stay", "a wrong end behind good clauses", x -> {
            x.slot(2);
            x.sell(0, 2, 3);
            rules(x, "3=10,g2-50");
            is(-13, rules(x, "3=77,g1-100,"));
            is(0, x.count(4));
            is(2, x.count(3));
            is(10, x.price(0));
            is(1, rules(x, "3=1"));
            is(2, x.price(0));
        });
    }

    private static void wrongPlaces() {
        holds(11, PLACE, "the first sign", x -> {
            read(-1, "x");
            read(-1, "!0=1");
            read(-1, "~");
        });
        holds(11, PLACE, "each place of a clause", x -> {
            read(-1, "x0=12,g3-45");
            read(-2, "0x=12,g3-45");
            read(-3, "0=x12,g3-45");
            read(-4, "0=1x2,g3-45");
            read(-5, "0=12x,g3-45");
            read(-6, "0=12,xg3-45");
            read(-7, "0=12,gx3-45");
            read(-8, "0=12,g3x-45");
            read(-9, "0=12,g3-x45");
            read(-10, "0=12,g3-4x5");
            read(-11, "0=12,g3-45x");
        });
        holds(11, PLACE, "the first of several", x -> {
            read(-3, "0=xyz");
            read(-5, "0=1,9,x");
        });
        holds(11, PLACE, "the last of 60 signs", x -> {
            read(-60, "0=99999,g00001-00001,g00001-00001,g00001-00001,g00001-000011");
            read(-60, "0=99999,g00001-00001,g00001-00001,g00001-00001,g00001-00001x");
        });
        holds(11, PLACE, "a sign that is wrong only for its number", x -> {
            read(-3, "g10-1");
            read(-6, "g1-101");
        });
    }

    private static void wrongEnds() {
        holds(11, END, "each way in which a text may stop too early", x -> {
            read(-2, "0");
            read(-3, "0=");
            read(-2, "g");
            read(-3, "g1");
            read(-4, "g1-");
            read(-5, "0=1,");
            read(-6, "0=1,4");
            read(-7, "0=1,4=");
            read(-6, "0=1,g");
            read(-6, "g1-5,");
        });
        holds(11, END, "60 signs", x -> {
            read(-61, "0=99999,g00001-00001,g00001-00001,g00001-00001,g00001-00001,");
            read(-61, "0=9999,g00001-00001,g00001-00001,g00001-00001,g00001-00001,0");
        });
        holds(11, END, "noughts that are no least group yet", x -> {
            read(-3, "g0");
            read(-6, "g0000");
        });
        holds(11, END, "a text of 60 signs whose end is good", x -> {
            read(6, "0=9999,g00001-00001,g00001-00001,g00001-00001,g00001-001,1=1");
        });
    }

    private static void clauses() {
        String between = "RULES are read from a text: CLAUSES with \",\" between them";
        holds(11, between, "none ahead, none behind, none twice", x -> {
            read(-1, ",");
            read(-1, ",0=1");
            read(-5, "0=1,");
            read(-5, "0=1,,1=1");
            read(-6, "g1-1,,");
        });
        holds(11, between, "another sign, or none", x -> {
            read(-4, "0=1;1=1");
            read(-4, "0=1.1=1");
            read(-4, "0=1g1-1");
            read(-5, "0=11=1");
            read(-5, "g1-1g2-2");
        });
        holds(11, "at most eight", "eight", x -> {
            read(8, "0=1,1=1,2=1,3=1,4=1,0=2,1=2,2=2");
            read(8, "g1-1,g1-1,g1-1,g1-1,g1-1,g1-1,g1-1,g1-1");
        });
        holds(11, "at most eight", "the \",\" behind the eighth is the wrong sign", x -> {
            read(-32, "0=1,1=1,2=1,3=1,4=1,0=2,1=2,2=2,3=2");
            read(-32, "0=1,1=1,2=1,3=1,4=1,0=2,1=2,2=2,");
            read(-40, "g1-1,g1-1,g1-1,g1-1,g1-1,g1-1,g1-1,g1-1,x");
        });
        holds(11, "at most eight", "the \",\" behind the seventh is a good one", x -> {
            read(-29, "0=1,1=1,2=1,3=1,4=1,0=2,1=2,");
            read(-29, "0=1,1=1,2=1,3=1,4=1,0=2,1=2,x");
        });
        holds(11, "(none: an empty text)", "0, not -1", x -> {
            is(0, x.rules());
            is(0, x.rules());
        });
    }

    private static void priceClauses() {
        String kind = "a kind \"0\" .. \"4\", \"=\", a price";
        holds(11, kind, "0 and 4", x -> {
            read(1, "0=1");
            read(1, "4=1");
        });
        holds(11, kind, "the signs beside 0 and 4", x -> {
            read(-1, "/=1");
            read(-1, "5=1");
            read(-1, "9=1");
            read(-1, ":=1");
        });
        holds(11, kind, "a kind is one sign", x -> {
            read(-2, "00=1");
            read(-2, "10=1");
        });
        holds(11, kind, "no other sign for =", x -> {
            read(-2, "0-1");
            read(-2, "0,");
            read(-3, "0==1");
            read(-1, "=1");
        });
        holds(11, kind, "a price has no sign of its own", x -> {
            read(-3, "0=-1");
            read(-3, "0=+1");
        });
    }

    private static void groupClauses() {
        String group = "or \"g\", a least group, \"-\", a percentage";
        holds(11, group, "whole", x -> {
            read(1, "g1-1");
        });
        holds(11, group, "no other sign for g", x -> {
            read(-1, "G1-1");
            read(-1, "f1-1");
            read(-1, "h1-1");
            read(-2, "gg1-1");
        });
        holds(11, group, "no other sign for -", x -> {
            read(-3, "g1=1");
            read(-3, "g1,");
            read(-4, "g1--1");
            read(-2, "g-1");
        });
        holds(11, group, "nothing behind the percentage", x -> {
            read(-5, "g1-5%");
            read(-5, "g1-5-");
            read(-5, "g1-5=");
        });
    }

    private static void numbers() {
        holds(11, DIGITS, "a price of none, one, five and six", x -> {
            read(-3, "0=");
            read(-3, "0=,1=1");
            read(1, "0=0");
            read(1, "0=99999");
            read(1, "0=00000");
            read(-8, "0=100000");
            read(-8, "0=000001");
        });
        holds(11, DIGITS, "a least group of none, one, five and six", x -> {
            read(-2, "g-1");
            read(1, "g1-1");
            read(1, "g00001-1");
            read(-7, "g000010-1");
        });
        holds(11, DIGITS, "a percentage of none, one, five and six", x -> {
            read(-4, "g1-");
            read(-4, "g1-,0=1");
            read(1, "g1-0");
            read(1, "g1-00000");
            read(1, "g1-00100");
            read(-9, "g1-000000");
            read(-9, "g1-000001");
        });
        holds(11, DIGITS, "the signs beside 0 and 9", x -> {
            read(-3, "0=/");
            read(-3, "0=:");
            read(-2, "g/");
            read(-2, "g:");
            read(-4, "g1-/");
            read(-4, "g1-:");
        });
    }

    private static void groupNumbers() {
        holds(11, "a least group is 1 .. 9", "1 and 9", x -> {
            read(1, "g1-1");
            read(1, "g9-1");
        });
        holds(11, "a least group is 1 .. 9", "0: what is wrong is the - behind it, since a digit could follow", x -> {
            read(-3, "g0-1");
            read(-6, "g0000-1");
            read(1, "g01-1");
        });
        holds(11, "a least group is 1 .. 9", "0: the fifth nought leaves no number that could follow", x -> {
            read(-6, "g00000");
            read(-6, "g00000-1");
        });
        holds(11, "a least group is 1 .. 9", "10 and beyond", x -> {
            read(-3, "g10-1");
            read(-3, "g11-1");
            read(-3, "g99-1");
            read(-6, "g00010-1");
        });
        holds(11, "a percentage 0 .. 100", "0 and 100", x -> {
            read(1, "g1-0");
            read(1, "g1-100");
            read(1, "g1-99");
        });
        holds(11, "a percentage 0 .. 100", "101 and beyond", x -> {
            read(-6, "g1-101");
            read(-6, "g1-110");
            read(-6, "g1-999");
            read(-7, "g1-1000");
            read(-8, "g1-00101");
        });
    }

    private static void price() {
        holds(12, "What a ticket costs by the rules as they are", "behind new rules, and behind wrong ones", x -> {
            x.slot(3);
            rules(x, "1=10");
            x.sell(0, 3, 1);
            is(30, x.price(0));
            rules(x, "1=11");
            is(33, x.price(0));
            rules(x, "1=12,");
            is(33, x.price(0));
        });
        holds(12, "What a ticket costs by the rules as they are", "a ticket that was given back", x -> {
            x.slot(3);
            rules(x, "1=10");
            x.sell(0, 3, 1);
            x.back(0);
            is(30, x.price(0));
        });
        holds(12, "What a ticket costs by the rules as they are", "a collected text is no rules yet", x -> {
            x.slot(3);
            x.sell(0, 3, 1);
            type(x, "1=10");
            is(0, x.price(0));
        });
        holds(12, "IndexOutOfBoundsException", "no such ticket", x -> {
            x.slot(3);
            index(() -> x.price(0));
            x.sell(0, 3, 1);
            index(() -> x.price(1));
            index(() -> x.price(-1));
            index(() -> x.price(60));
            index(() -> x.price(LEAST));
            index(() -> x.price(GREATEST));
        });
        holds(12, "A kind's price is that of the latest clause of it", "a lower one, and another kind's behind it", x -> {
            x.slot(3);
            x.sell(0, 1, 0);
            x.sell(0, 1, 4);
            rules(x, "0=9,4=8,0=5,4=7,1=3");
            is(5, x.price(0));
            is(7, x.price(1));
            rules(x, "0=9,0=0");
            is(0, x.price(0));
        });
        holds(12, "0 without any", "no rules, and rules of other kinds", x -> {
            x.slot(3);
            x.sell(0, 3, 2);
            is(0, x.price(0));
            rules(x, "1=10,3=10,g1-0");
            is(0, x.price(0));
        });
        holds(12, "The PRICE of a ticket: its guests times its kind's price", "the least and the greatest", x -> {
            x.slot(20);
            x.sell(0, 1, 0);
            x.sell(0, 9, 4);
            rules(x, "0=1,4=99999");
            is(1, x.price(0));
            is(899991, x.price(1));
        });
    }

    private static void percentages() {
        String less = "less the greatest percentage of those clauses whose least group is not above its guests";
        String falls = "(the rest of what is taken off falls)";
        holds(12, less, "a group of as many, of one fewer and of one more", x -> {
            x.slot(20);
            x.sell(0, 4, 0);
            x.sell(0, 5, 0);
            x.sell(0, 6, 0);
            rules(x, "0=100,g5-10");
            is(400, x.price(0));
            is(450, x.price(1));
            is(540, x.price(2));
        });
        holds(12, less, "a least group of 1 and of 9", x -> {
            x.slot(20);
            x.sell(0, 1, 0);
            x.sell(0, 8, 0);
            x.sell(0, 9, 0);
            rules(x, "0=100,g1-10,g9-20");
            is(90, x.price(0));
            is(720, x.price(1));
            is(720, x.price(2));
        });
        holds(12, less, "the greatest, be it the first, the last, or of a lesser group", x -> {
            x.slot(20);
            x.sell(0, 5, 0);
            rules(x, "0=100,g1-30,g2-20");
            is(350, x.price(0));
            rules(x, "0=100,g1-20,g1-30");
            is(350, x.price(0));
            rules(x, "0=100,g3-30,g3-20,g6-90");
            is(350, x.price(0));
        });
        holds(12, less, "nothing and all", x -> {
            x.slot(20);
            x.sell(0, 9, 0);
            rules(x, "0=99999,g9-0");
            is(899991, x.price(0));
            rules(x, "0=99999,g9-100");
            is(0, x.price(0));
        });
        holds(12, less, "it holds for each kind, and ahead of the price's clause, too", x -> {
            x.slot(20);
            x.sell(0, 2, 0);
            x.sell(0, 2, 4);
            rules(x, "g2-50,0=10,4=20");
            is(10, x.price(0));
            is(20, x.price(1));
        });
        holds(12, falls, "99 hundredths of what is taken off", x -> {
            x.slot(20);
            x.sell(0, 1, 0);
            rules(x, "0=99,g1-1");
            is(99, x.price(0));
            rules(x, "0=1,g1-99");
            is(1, x.price(0));
        });
        holds(12, falls, "just one", x -> {
            x.slot(20);
            x.sell(0, 1, 0);
            rules(x, "0=100,g1-1");
            is(99, x.price(0));
            rules(x, "0=101,g1-1");
            is(100, x.price(0));
        });
        holds(12, falls, "of all guests together, not of each", x -> {
            x.slot(20);
            x.sell(0, 2, 0);
            rules(x, "0=50,g1-1");
            is(99, x.price(0));
        });
        holds(12, falls, "of the greatest price", x -> {
            x.slot(20);
            x.sell(0, 9, 0);
            rules(x, "0=99999,g1-99");
            is(9000, x.price(0));
        });
    }
}
