import java.util.concurrent.Callable;

/** For each promise: ordinary inputs, the edges that the document names, and wrong inputs. */
public final class PromiseTest {
    private static final String INDEX = "IndexOutOfBoundsException";
    private static final String STATE = "IllegalStateException";
    private static final String ARGUMENT = "IllegalArgumentException";

    private static int wrong = 0;

    private static void due(Object want, String call, Callable<Object> asked) {
        String got;
        try {
            got = String.valueOf(asked.call());
        } catch (Exception e) {
            got = e.getClass().getSimpleName();
        }
        if (!got.equals(String.valueOf(want))) {
            wrong++;
            System.out.println(call + " answered " + got + ", due is " + want);
        }
    }

    private static SlotTickets withSlots(int... places) {
        SlotTickets x = new SlotTickets();
        for (int p : places) {
            x.slot(p);
        }
        return x;
    }

    private static Object over(SlotTickets x, int slot, int above, int below, int riskAbove, int riskBelow) {
        x.over(slot, above, below, riskAbove, riskBelow);
        return "done";
    }

    private static int rules(SlotTickets x, String text) {
        for (int i = 0; i < text.length(); i++) {
            x.unit(text.charAt(i));
        }
        return x.rules();
    }

    private static String codeOf(SlotTickets x, int ticket) {
        StringBuilder digits = new StringBuilder();
        for (int i = 0; i < 6; i++) {
            digits.append(x.code(ticket, i));
        }
        return digits.toString();
    }

    private static String doubleOf(SlotTickets x, int k) {
        return x.twice(k, 0) + "/" + x.twice(k, 1) + "/" + x.twice(k, 2);
    }

    private static void aNewObject() {
        SlotTickets x = new SlotTickets();
        due(-1, "NONE", () -> SlotTickets.NONE);
        for (int what = 0; what < 5; what++) {
            int w = what;
            due(0, "1 count(" + w + ")", () -> x.count(w));
        }
        due(0, "1 inside", () -> x.inside(100000));
        due(INDEX, "1 twice", () -> x.twice(0, 0));
        due(INDEX, "1 most", () -> x.most(0));
        due(INDEX, "1 price", () -> x.price(0));
    }

    private static void slots() {
        SlotTickets x = new SlotTickets();
        due(ARGUMENT, "2 slot(0)", () -> x.slot(0));
        due(ARGUMENT, "2 slot(21)", () -> x.slot(21));
        due(ARGUMENT, "2 slot(least)", () -> x.slot(Integer.MIN_VALUE));
        due(0, "2 count behind wrong ones", () -> x.count(0));
        int[] places = {1, 20, 2, 3, 4, 5, 6, 7};
        for (int i = 0; i < places.length; i++) {
            int k = i;
            due(k, "2 slot", () -> x.slot(places[k]));
            due(places[k], "2 most", () -> x.most(k));
        }
        due(STATE, "2 ninth slot", () -> x.slot(1));
        due(STATE, "2 ninth slot, wrong places", () -> x.slot(0));
        due(8, "2 count", () -> x.count(0));
    }

    private static void told() {
        SlotTickets x = withSlots(2);
        int[][] numbers = {{0, 0, 0, 1}, {0, 17, 0, 1}, {-1, 2, 0, 1}, {3, 2, 0, 1}, {1, 2, -1, 1}, {1, 2, 2, 1},
            {1, 2, 0, 0}, {1, 2, 0, 1001}, {1, -2, 0, 1}, {1, 2, 0, -1}};
        for (int[] n : numbers) {
            due(ARGUMENT, "3 wrong number", () -> over(x, 0, n[0], n[1], n[2], n[3]));
        }
        due(INDEX, "3 slot 1", () -> over(x, 1, 1, 2, 0, 1));
        due(INDEX, "3 slot -1, wrong number", () -> over(x, -1, 3, 2, 0, 1));
        due(2, "3 most is as before", () -> x.most(0));
        due(1, "3 odds are as before", () -> x.odds(0, 3, 0));
        due("done", "3 edges", () -> over(x, 0, 16, 16, 1000, 1000));
        due(10, "3 most", () -> x.most(0));
        due("done", "3 edges", () -> over(x, 0, 0, 1, 0, 1));
        due(10, "3 none comes", () -> x.most(0));
        due("done", "3 all come", () -> over(x, 0, 1, 1, 999, 1000));
        due(2, "3 all come, nearly all risk", () -> x.most(0));
    }

    private static void most() {
        SlotTickets x = withSlots(1, 20);
        due(1, "4 at first", () -> x.most(0));
        x.over(0, 1, 2, 1, 4);
        due(2, "4 odds equal to the risk are not above it", () -> x.most(0));
        x.over(0, 1, 2, 249, 1000);
        due(1, "4 a little less risk", () -> x.most(0));
        x.over(0, 1, 2, 1, 2);
        due(3, "4 the half", () -> x.most(0));
        x.over(0, 1, 2, 1, 1);
        due(9, "4 all risk", () -> x.most(0));
        x.over(1, 1, 16, 0, 1);
        due(20, "4 one in 16 to the power of 21 is above no risk", () -> x.most(1));
        x.over(1, 1, 16, 1, 1000);
        due(28, "4 hardly any come", () -> x.most(1));
        due(9, "4 the other slot", () -> x.most(0));
        due(INDEX, "4 slot 2", () -> x.most(2));
        due(INDEX, "4 slot -1", () -> x.most(-1));
    }

    private static void odds() {
        SlotTickets x = withSlots(1, 20);
        due(0, "5 at first, as many as places", () -> x.odds(0, 1, 0));
        due(1, "5 at first, one more", () -> x.odds(0, 2, 0));
        due(0, "5 at first, none", () -> x.odds(0, 0, 0));
        x.over(0, 1, 2, 0, 1);
        // Of 5 guests 32 - 1 - 5 = 26 ways have more than one.
        due(6, "5 last digit", () -> x.odds(0, 5, 0));
        due(2, "5 digit 1", () -> x.odds(0, 5, 1));
        due(0, "5 digit 2", () -> x.odds(0, 5, 2));
        x.over(0, 2, 4, 0, 1);
        // Of 4 to the power of 5: each of the 26 ways now stands for 2 to the power of 5 of them.
        due("832", "5 not lessened", () -> "" + x.odds(0, 5, 2) + x.odds(0, 5, 1) + x.odds(0, 5, 0));
        x.over(1, 16, 16, 0, 1);
        // 16 ^ 28 = 2 ^ 112 = 5192296858534827628530496329220096
        String power = "5192296858534827628530496329220096";
        for (int k = 0; k < 40; k++) {
            int digit = k < power.length() ? power.charAt(power.length() - 1 - k) - '0' : 0;
            int place = k;
            due(digit, "5 digit " + k + " of 16 ^ 28", () -> x.odds(1, 28, place));
        }
        due(0, "5 never more than there are", () -> x.odds(1, 20, 0));
        due(INDEX, "5 digit 40", () -> x.odds(0, 1, 40));
        due(INDEX, "5 digit -1", () -> x.odds(0, 1, -1));
        due(INDEX, "5 slot 2", () -> x.odds(2, 1, 0));
        due(INDEX, "5 slot -1 and guests", () -> x.odds(-1, 29, 0));
        due(INDEX, "5 digit 40 and guests", () -> x.odds(0, 29, 40));
        due(ARGUMENT, "5 guests 29", () -> x.odds(0, 29, 0));
        due(ARGUMENT, "5 guests -1", () -> x.odds(0, -1, 0));
    }

    private static void sell() {
        SlotTickets x = withSlots(9, 20, 20, 20);
        due(INDEX, "6 slot", () -> x.sell(4, 1, 0));
        due(INDEX, "6 slot -1", () -> x.sell(-1, 1, 0));
        due(INDEX, "6 kind 5", () -> x.sell(0, 1, 5));
        due(INDEX, "6 kind -1 and group", () -> x.sell(0, 0, -1));
        due(ARGUMENT, "6 group 0", () -> x.sell(0, 0, 0));
        due(ARGUMENT, "6 group 10", () -> x.sell(0, 10, 0));
        due(0, "6 all places at once", () -> x.sell(0, 9, 4));
        due(-1, "6 full", () -> x.sell(0, 1, 0));
        due(1, "6 count", () -> x.count(1));
        x.over(0, 0, 1, 0, 1);
        due(1, "6 up to the most", () -> x.sell(0, 8, 0));
        due(-1, "6 above the most", () -> x.sell(0, 1, 0));
        x.over(0, 1, 1, 0, 1);
        due(-1, "6 sold beyond a lessened most", () -> x.sell(0, 1, 0));
        x.over(1, 0, 1, 0, 1);
        x.over(2, 0, 1, 0, 1);
        x.over(3, 0, 1, 0, 1);
        for (int i = 2; i < 60; i++) {
            int ticket = i;
            due(ticket, "6 sell", () -> x.sell(1 + (ticket - 2) / 28, 1, 0));
        }
        due(STATE, "6 there are 60", () -> x.sell(3, 1, 0));
        due(STATE, "6 there are 60, no room", () -> x.sell(0, 1, 0));
        due(STATE, "6 there are 60 and group", () -> x.sell(3, 0, 0));
        due(INDEX, "6 there are 60 and kind", () -> x.sell(3, 0, 5));
        x.back(5);
        due(STATE, "6 those given back count", () -> x.sell(1, 1, 0));
    }

    private static void back() {
        SlotTickets x = withSlots(5, 5);
        x.sell(0, 3, 0);
        x.sell(0, 2, 1);
        x.sell(1, 5, 1);
        x.waits(0, 4, 0);
        x.waits(1, 1, 0);
        x.waits(0, 2, 2);
        x.waits(0, 1, 3);
        x.waits(0, 1, 4);
        due(2, "7 two of four get one", () -> x.back(0));
        due("-1 -1 3 4 -1", "7 who got one",
            () -> x.given(0) + " " + x.given(1) + " " + x.given(2) + " " + x.given(3) + " " + x.given(4));
        due("0 2 2 0", "7 the ticket", () -> x.about(3, 0) + " " + x.about(3, 1) + " " + x.about(3, 2) + " "
            + x.about(3, 3));
        due(-1, "7 again", () -> x.back(0));
        due(1, "7 one given to a request, given back", () -> x.back(3));
        due(5, "7 the next in order that has room", () -> x.given(4));
        due(1, "7 one let in", () -> x.read(5, 2, 3600));
        due(-1, "7 not behind a reader", () -> x.back(2));
        due(0, "7 not given back", () -> x.about(2, 3));
        due(INDEX, "7 ticket 6", () -> x.back(6));
        due(INDEX, "7 ticket -1", () -> x.back(-1));
        due(0, "7 room for none that waits", () -> x.back(5));
        x.over(0, 0, 1, 0, 1);
        due(1, "7 by the most as it is", () -> x.back(4));
    }

    private static void backWithSixtyTickets() {
        SlotTickets x = withSlots(20, 20, 20);
        for (int i = 0; i < 59; i++) {
            x.sell(i / 20, 1, 0);
        }
        x.waits(0, 1, 0);
        x.waits(0, 1, 0);
        due(1, "7 the sixtieth", () -> x.back(0));
        due(59, "7 its number", () -> x.given(0));
        due(0, "7 no more than 60", () -> x.back(1));
        due(1, "7 still waiting", () -> x.count(2));
        due(0, "7 no more than 60", () -> x.back(59));
    }

    private static void backBeyondTheMost() {
        SlotTickets x = withSlots(1);
        x.over(0, 0, 1, 0, 1);
        x.sell(0, 8, 0);
        x.sell(0, 1, 0);
        x.waits(0, 1, 0);
        x.over(0, 1, 1, 0, 1);
        due(0, "7 still more than the most", () -> x.back(1));
        due(1, "7 room at last", () -> x.back(0));
    }

    private static void waits() {
        SlotTickets x = withSlots(1);
        due(INDEX, "8 slot", () -> x.waits(1, 1, 0));
        due(INDEX, "8 slot -1", () -> x.waits(-1, 1, 0));
        due(INDEX, "8 kind", () -> x.waits(0, 0, 5));
        due(INDEX, "8 kind -1", () -> x.waits(0, 1, -1));
        due(ARGUMENT, "8 group 0", () -> x.waits(0, 0, 0));
        due(ARGUMENT, "8 group 10", () -> x.waits(0, 10, 0));
        x.sell(0, 1, 0);
        for (int i = 0; i < 30; i++) {
            int request = i;
            due(request, "8 waits", () -> x.waits(0, 1 + request % 9, request % 5));
        }
        due(STATE, "8 there were 30", () -> x.waits(0, 1, 0));
        due(STATE, "8 there were 30 and group", () -> x.waits(0, 0, 0));
        due(INDEX, "8 there were 30 and slot", () -> x.waits(2, 1, 0));
        due(1, "8 one gets a ticket", () -> x.back(0));
        due(STATE, "8 there were 30, one of them served", () -> x.waits(0, 1, 0));
        due(29, "8 those that wait", () -> x.count(2));
    }

    private static void given() {
        SlotTickets x = withSlots(3);
        due(INDEX, "9 none yet", () -> x.given(0));
        x.waits(0, 1, 0);
        due(-1, "9 waits though there is room", () -> x.given(0));
        due(INDEX, "9 request 1", () -> x.given(1));
        due(INDEX, "9 request -1", () -> x.given(-1));
        x.sell(0, 1, 0);
        x.back(0);
        due(1, "9 its ticket", () -> x.given(0));
        x.back(1);
        due(1, "9 its ticket, given back", () -> x.given(0));
    }

    private static void unit() {
        SlotTickets x = new SlotTickets();
        due(ARGUMENT, "10 sign 32", () -> x.unit(32));
        due(ARGUMENT, "10 sign 127", () -> x.unit(127));
        due(ARGUMENT, "10 sign -1", () -> x.unit(-1));
        for (int i = 1; i <= 60; i++) {
            int signs = i;
            due(signs, "10 unit", () -> x.unit(signs % 2 == 0 ? 33 : 126));
        }
        due(STATE, "10 sign 61", () -> x.unit(50));
        due(STATE, "10 sign 61, a wrong one", () -> x.unit(32));
        due(60, "10 count", () -> x.count(4));
        due(-1, "10 rules", () -> x.rules());
        due(0, "10 empty", () -> x.count(4));
        due(1, "10 anew", () -> x.unit(50));
    }

    private static void rules() {
        Object[][] texts = {
            {"", 0}, {"0=1", 1}, {"4=99999", 1}, {"0=00000", 1}, {"g1-0", 1}, {"g9-100", 1}, {"g00009-00100", 1},
            {"0=1,0=2,g1-1,g1-1,4=0,3=7,2=5,1=9", 8},
            {"0=1,1=1,2=1,3=1,4=1,0=1,1=1,2=1,", -32}, {"0=1,1=1,2=1,3=1,4=1,0=1,1=1,2=1,0=1", -32},
            {"0=1,1=1,2=1,3=1,4=1,0=1,1=1,", -29},
            {"5=1", -1}, {",", -1}, {"G1-1", -1}, {"=1", -1}, {"h", -1}, {"/", -1}, {":", -1},
            {"0", -2}, {"0-1", -2}, {"00=1", -2}, {"0=", -3}, {"0=,", -3}, {"0=-1", -3}, {"0=x", -3},
            {"0=123456", -8}, {"0=1=", -4}, {"0=1,", -5}, {"0=1,,", -5}, {"0=1,5", -5}, {"0=1;", -4}, {"0=1g", -4},
            {"g", -2}, {"g-", -2}, {"g=", -2}, {"g1", -3}, {"g1=", -3}, {"g10-1", -3}, {"g1,", -3},
            {"g0", -3}, {"g0-1", -3}, {"g01-1", 1}, {"g0000", -6}, {"g00000", -6}, {"g00000-1", -6}, {"g0000-", -6},
            {"g00001", -7}, {"g000011", -7}, {"g00010", -6}, {"g0010-1", -5},
            {"g1-", -4}, {"g1-,", -4}, {"g1--", -4}, {"g1-101", -6}, {"g1-1000", -7}, {"g1-99", 1}, {"g1-990", -6},
            {"g1-000000", -9}, {"g1-00101", -8}, {"g1-5,g2-", -9}, {"g1-5=", -5}, {"g1-5%", -5},
            {"0=99999,g00001-00001,g00001-00001,g00001-00001,g00001-00001,", -61},
        };
        for (Object[] text : texts) {
            SlotTickets x = new SlotTickets();
            due(text[1], "11 rules of '" + text[0] + "'", () -> rules(x, (String) text[0]));
            due(0, "11 signs behind '" + text[0] + "'", () -> x.count(4));
            int kept = Math.max(0, (Integer) text[1]);
            due(kept, "11 clauses of '" + text[0] + "'", () -> x.count(3));
        }
        SlotTickets x = withSlots(20);
        x.sell(0, 2, 3);
        due(2, "11 rules", () -> rules(x, "3=10,g2-50"));
        due(10, "11 price", () -> x.price(0));
        due(-7, "11 wrong behind good clauses", () -> rules(x, "3=77,g"));
        due("2 10", "11 the former rules stay", () -> x.count(3) + " " + x.price(0));
        due(1, "11 in place of the former", () -> rules(x, "3=4"));
        due("1 8", "11 the former ones are gone", () -> x.count(3) + " " + x.price(0));
        due(0, "11 none", () -> x.rules());
        due("0 0", "11 none", () -> x.count(3) + " " + x.price(0));
    }

    private static void price() {
        SlotTickets x = withSlots(20, 20);
        x.sell(0, 9, 0);
        x.sell(0, 3, 4);
        x.sell(0, 1, 2);
        due(0, "12 without rules", () -> x.price(0));
        rules(x, "0=5,4=99,0=99999");
        due(899991, "12 the latest clause, the greatest price", () -> x.price(0));
        due(297, "12 kind 4", () -> x.price(1));
        due(0, "12 kind without a clause", () -> x.price(2));
        rules(x, "g9-1,4=99,0=99999,g3-10,g4-3,2=7,g3-9");
        due(899991 - 89999, "12 the greatest percentage", () -> x.price(0));
        due(297 - 29, "12 at the least group", () -> x.price(1));
        due(7, "12 under the least group", () -> x.price(2));
        rules(x, "0=99999,g9-100,2=99,g1-99");
        due(0, "12 all off", () -> x.price(0));
        due(1, "12 nearly all off", () -> x.price(2));
        x.back(2);
        due(1, "12 one given back", () -> x.price(2));
        due(INDEX, "12 ticket 3", () -> x.price(3));
        due(INDEX, "12 ticket -1", () -> x.price(-1));
    }

    private static void about() {
        SlotTickets x = withSlots(20, 20);
        x.sell(0, 1, 0);
        x.sell(1, 9, 4);
        due("1 9 4 0", "13 about", () -> x.about(1, 0) + " " + x.about(1, 1) + " " + x.about(1, 2) + " " + x.about(1, 3));
        x.back(1);
        due("1 9 4 1", "13 back", () -> x.about(1, 0) + " " + x.about(1, 1) + " " + x.about(1, 2) + " " + x.about(1, 3));
        due(0, "13 the other", () -> x.about(0, 3));
        due(INDEX, "13 what 4", () -> x.about(0, 4));
        due(INDEX, "13 what -1", () -> x.about(0, -1));
        due(INDEX, "13 ticket 2", () -> x.about(2, 0));
        due(INDEX, "13 ticket -1", () -> x.about(-1, 0));
    }

    private static SlotTickets withTwelveTickets() {
        SlotTickets x = withSlots(20, 20);
        for (int i = 0; i < 11; i++) {
            x.sell(0, 1, 0);
        }
        x.sell(1, 1, 0);
        return x;
    }

    private static void code() {
        SlotTickets x = withTwelveTickets();
        // 3 * 1 + 7 * 2 + 3 + 3 * 4 + 7 * 5 = 67
        due("123453", "14 ticket 0", () -> codeOf(x, 0));
        // 7919 * 10 + 12345 = 91535: 27 + 7 + 5 + 9 + 35 = 83
        due("915357", "14 ticket 10", () -> codeOf(x, 10));
        // 7919 * 11 + 31 + 12345 = 99485: 27 + 63 + 4 + 24 + 35 = 153
        due("994857", "14 ticket 11, slot 1", () -> codeOf(x, 11));
        x.sell(1, 1, 0);
        // 7919 * 12 + 31 + 12345 = 107404: 0 + 49 + 4 + 0 + 28 = 81
        due("074049", "14 ticket 12, a nought ahead", () -> codeOf(x, 12));
        due(INDEX, "14 digit 6", () -> x.code(0, 6));
        due(INDEX, "14 digit -1", () -> x.code(0, -1));
        due(INDEX, "14 ticket 13", () -> x.code(13, 0));
        due(INDEX, "14 ticket -1", () -> x.code(-1, 0));
    }

    private static void whose() {
        SlotTickets x = withTwelveTickets();
        due(0, "15 ticket 0", () -> x.whose(123453));
        due(11, "15 ticket 11", () -> x.whose(994857));
        due(-1, "15 ticket 12, not yet sold", () -> x.whose(74049));
        x.sell(1, 1, 0);
        due(12, "15 ticket 12", () -> x.whose(74049));
        x.back(0);
        due(0, "15 one given back", () -> x.whose(123453));
        for (int check = 0; check < 10; check++) {
            int code = 123450 + check;
            due(check == 3 ? 0 : -1, "15 check", () -> x.whose(code));
        }
        // 3 * 1 + 7 * 2 + 3 + 3 * 4 + 7 * 6 = 74
        due(-1, "15 a good check of no ticket", () -> x.whose(123466));
        // 7919 * 13 + 12345 = 115292: 3 + 35 + 2 + 27 + 14 = 81
        due(-1, "15 the next ticket, not yet sold", () -> x.whose(152929));
        due(-1, "15 seven digits", () -> x.whose(1123453));
        due(-1, "15 negative", () -> x.whose(-123453));
        due(-1, "15 nought", () -> x.whose(0));
        due(-1, "15 greatest", () -> x.whose(Integer.MAX_VALUE));
        due(-1, "15 least", () -> x.whose(Integer.MIN_VALUE));
    }

    private static void read() {
        SlotTickets x = withSlots(20, 20);
        x.sell(0, 1, 0);
        x.sell(1, 1, 0);
        x.sell(1, 1, 0);
        due(4, "16 too late", () -> x.read(0, 0, 901));
        due(1, "16 at the first second", () -> x.read(0, 0, 0));
        due(0, "16 again, though too late", () -> x.read(0, 0, 901));
        due(1, "16 another reader", () -> x.read(5, 0, 900));
        due(3, "16 too early", () -> x.read(0, 1, 3599));
        due(4, "16 too late", () -> x.read(0, 1, 4501));
        due(1, "16 just in time", () -> x.read(0, 1, 4500));
        due(0, "16 again, though too early", () -> x.read(0, 1, 0));
        x.back(2);
        due(2, "16 given back", () -> x.read(0, 2, 3600));
        due(2, "16 given back, too early", () -> x.read(0, 2, 0));
        due(2, "16 given back, too late", () -> x.read(0, 2, 100000));
        due(INDEX, "16 reader 6", () -> x.read(6, 0, 0));
        due(INDEX, "16 reader -1 and second", () -> x.read(-1, 0, -1));
        due(INDEX, "16 ticket 3", () -> x.read(0, 3, 0));
        due(INDEX, "16 ticket -1 and second", () -> x.read(0, -1, 100001));
        due(ARGUMENT, "16 second -1", () -> x.read(0, 0, -1));
        due(ARGUMENT, "16 second 100001", () -> x.read(0, 0, 100001));
    }

    private static void joinAndTwice() {
        SlotTickets x = withSlots(20);
        x.sell(0, 2, 0);
        x.sell(0, 3, 0);
        x.sell(0, 4, 0);
        due(0, "17 nothing", () -> x.join());
        x.read(4, 1, 50);
        x.read(2, 1, 50);
        x.read(0, 1, 60);
        x.read(5, 1, 40);
        x.read(1, 0, 700);
        x.read(3, 0, 699);
        x.read(3, 2, 1);
        due(INDEX, "18 not before the join", () -> x.twice(0, 0));
        due(4, "17 join", () -> x.join());
        due("0/1/700", "18 by tickets", () -> doubleOf(x, 0));
        due("1/2/50", "18 of equal seconds the lower reader", () -> doubleOf(x, 1));
        due("1/4/50", "18 then the higher reader", () -> doubleOf(x, 2));
        due("1/0/60", "18 by seconds", () -> doubleOf(x, 3));
        x.read(0, 0, 5);
        x.read(0, 2, 0);
        due("0/1/700", "18 as of the latest join", () -> doubleOf(x, 0));
        due(INDEX, "18 as of the latest join", () -> x.twice(4, 0));
        due(6, "17 join again", () -> x.join());
        due("0/3/699", "18 the former first is a double", () -> doubleOf(x, 0));
        due("0/1/700", "18 the second double", () -> doubleOf(x, 1));
        due("2/3/1", "18 the last", () -> doubleOf(x, 5));
        due(INDEX, "18 k 6", () -> x.twice(6, 0));
        due(INDEX, "18 k -1", () -> x.twice(-1, 0));
        due(INDEX, "18 what 3", () -> x.twice(0, 3));
        due(INDEX, "18 what -1", () -> x.twice(0, -1));
        due(6, "17 the same once more", () -> x.join());
    }

    private static void equalSecondsLowestReaderCounts() {
        SlotTickets x = withSlots(20);
        x.sell(0, 1, 0);
        x.read(5, 0, 7);
        x.read(1, 0, 7);
        due(1, "17 join", () -> x.join());
        due("0/5/7", "17 the lower reader counts", () -> doubleOf(x, 0));
    }

    private static void allLetInByAll() {
        SlotTickets x = withSlots(20, 20, 20);
        for (int ticket = 0; ticket < 60; ticket++) {
            x.sell(ticket / 20, 1, 0);
        }
        for (int entry = 0; entry < 360; entry++) {
            int ticket = entry / 6;
            x.read(entry % 6, ticket, 3600 * (ticket / 20) + 5 - entry % 6);
        }
        due(300, "17 all doubles", () -> x.join());
        due("59/0/7205", "18 the last of all", () -> doubleOf(x, 299));
        due(INDEX, "18 k 300", () -> x.twice(300, 0));
        due(60, "20 all", () -> x.inside(100000));
        due(-1, "15 no ticket of all 60", () -> x.whose(123466));
    }

    private static void leavesAndInside() {
        SlotTickets x = withSlots(20, 20);
        x.sell(0, 2, 0);
        x.sell(1, 5, 0);
        x.sell(0, 9, 0);
        x.read(0, 0, 100);
        x.read(0, 1, 3700);
        due(false, "19 not yet joined", () -> x.leaves(0, 200));
        due(0, "20 not yet joined", () -> x.inside(200));
        x.join();
        due("0 2 2 7", "20 inside",
            () -> x.inside(99) + " " + x.inside(100) + " " + x.inside(3699) + " " + x.inside(3700));
        due(false, "19 too early", () -> x.leaves(0, 99));
        due(true, "19 at once", () -> x.leaves(0, 100));
        due(0, "20 in and out in one second", () -> x.inside(100));
        due(false, "19 again", () -> x.leaves(0, 200));
        due(true, "19 the other", () -> x.leaves(1, 5000));
        due("5 0 0", "20 gone out by then", () -> x.inside(4999) + " " + x.inside(5000) + " " + x.inside(100000));
        due(false, "19 went out before, though at a later second", () -> x.leaves(1, 4000));
        due(5, "20 the first going out stays", () -> x.inside(4500));
        due(false, "19 never let in", () -> x.leaves(2, 100000));
        x.read(3, 1, 3650);
        due(0, "20 as of the latest join", () -> x.inside(3650));
        x.join();
        due("0 5", "20 an earlier second by a new join", () -> x.inside(3649) + " " + x.inside(3650));
        due(INDEX, "19 ticket 3", () -> x.leaves(3, 0));
        due(INDEX, "19 ticket -1 and second", () -> x.leaves(-1, -1));
        due(ARGUMENT, "19 second -1", () -> x.leaves(0, -1));
        due(ARGUMENT, "19 second 100001", () -> x.leaves(0, 100001));
        due(ARGUMENT, "20 second -1", () -> x.inside(-1));
        due(ARGUMENT, "20 second 100001", () -> x.inside(100001));
    }

    private static void count() {
        SlotTickets x = withSlots(5, 5, 5);
        x.sell(0, 1, 0);
        x.sell(0, 1, 0);
        x.back(0);
        x.waits(0, 1, 0);
        x.waits(1, 1, 0);
        rules(x, "0=1,1=1,2=1,3=1");
        x.unit('g');
        due("3 2 2 4 1", "21 counts", () -> x.count(0) + " " + x.count(1) + " " + x.count(2) + " " + x.count(3) + " "
            + x.count(4));
        x.back(1);
        due("3 1", "21 one served", () -> x.count(1) + " " + x.count(2));
        due(INDEX, "21 what 5", () -> x.count(5));
        due(INDEX, "21 what -1", () -> x.count(-1));
    }

    public static void main(String[] args) {
        aNewObject();
        slots();
        told();
        most();
        odds();
        sell();
        back();
        backWithSixtyTickets();
        backBeyondTheMost();
        waits();
        given();
        unit();
        rules();
        price();
        about();
        code();
        whose();
        read();
        joinAndTwice();
        equalSecondsLowestReaderCounts();
        allLetInByAll();
        leavesAndInside();
        count();
        System.out.println(wrong == 0 ? "all answers are as due" : wrong + " answers are wrong");
        System.exit(wrong == 0 ? 0 : 1);
    }
}
