import java.math.BigInteger;
import java.util.regex.Matcher;
import java.util.regex.Pattern;

/** All shares of guests that come, and all short texts behind some beginnings, against plain formulas. */
public final class SweepTest {
    private static final int MOST_GUESTS = 28;
    private static final int DIGITS = 40;
    private static final int[] PLACES = {1, 2, 3, 7, 12, 19, 20};
    private static final int[] RISKS_BELOW = {1, 2, 3, 16, 256, 999, 1000};

    private static final String SIGNS = "0159g-=,";
    private static final String PERCENT = "(?:0{0,4}[0-9]|0{0,3}[0-9][0-9]|0{0,2}100)";
    private static final String CLAUSE = "(?:[0-4]=[0-9]{1,5}|g0{0,4}[1-9]-" + PERCENT + ")";
    private static final Pattern RULES = Pattern.compile(CLAUSE + "(?:," + CLAUSE + "){0,7}");
    private static final String SEVEN = "0=1,0=1,0=1,0=1,0=1,0=1,0=1,";
    private static final String[] BEGINNINGS = {"", "g0", "g000", "g0000", "g1-0", "g1-000", "g9-10", "g9-0010", "0=0",
        "0=0000", "4=9999", "g5-5,", SEVEN, SEVEN + "g1-", SEVEN + "2=5"};

    private static long checked = 0;
    private static long wrong = 0;

    private static void due(int want, int got, String call) {
        checked++;
        if (got != want) {
            wrong++;
            System.out.println(call + " answered " + got + ", due is " + want);
        }
    }

    private static BigInteger power(int base, int n) {
        return BigInteger.valueOf(base).pow(n);
    }

    private static BigInteger choices(int n, int of) {
        BigInteger all = BigInteger.ONE;
        for (int i = 0; i < of; i++) {
            all = all.multiply(BigInteger.valueOf(n - i)).divide(BigInteger.valueOf(i + 1));
        }
        return all;
    }

    private static BigInteger tooMany(int n, int places, int above, int below) {
        BigInteger sum = BigInteger.ZERO;
        for (int come = places + 1; come <= n; come++) {
            sum = sum.add(choices(n, come).multiply(power(above, come)).multiply(power(below - above, n - come)));
        }
        return sum;
    }

    private static void share(int places, int above, int below) {
        SlotTickets x = new SlotTickets();
        x.slot(places);
        x.over(0, above, below, 0, 1);
        BigInteger[] odds = new BigInteger[MOST_GUESTS + 1];
        for (int n = 0; n <= MOST_GUESTS; n++) {
            odds[n] = tooMany(n, places, above, below);
            digits(x, n, odds[n], places + " places, " + above + " of " + below + ": odds of " + n);
        }
        for (int riskBelow : RISKS_BELOW) {
            for (int n = places; n <= places + 8; n++) {
                BigInteger near = odds[n].multiply(BigInteger.valueOf(riskBelow)).divide(power(below, n));
                risk(x, places, new int[] {above, below, near.intValue(), riskBelow}, odds);
                risk(x, places, new int[] {above, below, near.intValue() - 1, riskBelow}, odds);
            }
        }
    }

    private static void digits(SlotTickets x, int n, BigInteger odds, String call) {
        BigInteger rest = odds;
        for (int k = 0; k < DIGITS; k++) {
            due(rest.mod(BigInteger.TEN).intValue(), x.odds(0, n, k), call);
            rest = rest.divide(BigInteger.TEN);
        }
    }

    /** The risks nearest to the odds of some number of guests are those at which the most changes. */
    private static void risk(SlotTickets x, int places, int[] told, BigInteger[] odds) {
        if (told[2] < 0) {
            return;
        }
        int most = places;
        while (most < places + 8 && !isAbove(odds[most + 1], power(told[1], most + 1), told[2], told[3])) {
            most++;
        }
        x.over(0, told[0], told[1], told[2], told[3]);
        due(most, x.most(0), places + " places, " + told[0] + " of " + told[1] + ", risk " + told[2] + " of " + told[3]);
    }

    private static boolean isAbove(BigInteger odds, BigInteger all, int riskAbove, int riskBelow) {
        return odds.multiply(BigInteger.valueOf(riskBelow)).compareTo(all.multiply(BigInteger.valueOf(riskAbove))) > 0;
    }

    private static void texts(String text, int more) {
        rules(text);
        if (more > 0) {
            for (int i = 0; i < SIGNS.length(); i++) {
                texts(text + SIGNS.charAt(i), more - 1);
            }
        }
    }

    private static void rules(String text) {
        SlotTickets x = new SlotTickets();
        for (int i = 0; i < text.length(); i++) {
            x.unit(text.charAt(i));
        }
        due(rulesDue(text), x.rules(), "rules \"" + text + "\"");
    }

    private static int rulesDue(String text) {
        if (text.isEmpty()) {
            return 0;
        }
        for (int i = 0; i < text.length(); i++) {
            Matcher part = RULES.matcher(text.substring(0, i + 1));
            // An end that was hit is one behind which more signs could make rules of the text.
            if (!part.matches() && !part.hitEnd()) {
                return -1 - i;
            }
        }
        return RULES.matcher(text).matches() ? text.split(",").length : -1 - text.length();
    }

    public static void main(String[] args) {
        for (int places : PLACES) {
            for (int below = 1; below <= 16; below++) {
                for (int above = 0; above <= below; above++) {
                    share(places, above, below);
                }
            }
        }
        for (String beginning : BEGINNINGS) {
            texts(beginning, 4);
        }
        System.out.println(checked + " answers, " + (wrong == 0 ? "all as due" : wrong + " wrong"));
        System.exit(wrong == 0 ? 0 : 1);
    }
}
