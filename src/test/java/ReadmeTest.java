import java.io.IOException;
import java.lang.reflect.Method;
import java.lang.reflect.Modifier;
import java.nio.file.Files;
import java.nio.file.Path;

/** README.md's example answers what stands beside it, and every call of the face is named there. */
public final class ReadmeTest {
    private static final Path README = Path.of("README.md");
    private static final Path THIS = Path.of("src/test/java/ReadmeTest.java");

    private static int wrong = 0;

    private static void due(Object want, Object got, String what) {
        if (!want.equals(got)) {
            wrong++;
            System.out.println(what + " is " + got + ", due is " + want);
        }
    }

    private static void example() {
        // <example>
        SlotTickets x = new SlotTickets();
        int slot = x.slot(2);                 // 0: a slot with two places
        x.over(slot, 1, 2, 1, 8);             // of two guests one comes; a risk of 1 of 8 is borne
        int most = x.most(slot);              // 3: one more than the places
        int ticket = x.sell(slot, 3, 0);      // 0: a group of three, kind 0
        int none = x.sell(slot, 1, 0);        // NONE: there is no room
        int request = x.waits(slot, 1, 0);    // 0: waits till a ticket is given back
        for (char sign : "0=1250,g3-10".toCharArray()) {
            x.unit(sign);
        }
        int clauses = x.rules();              // 2, or -1 minus the place of the first wrong sign
        int price = x.price(ticket);          // 3375: three times 1250, less 10 percent
        int got = x.back(ticket);             // 1: one that waited gets a ticket
        int later = x.given(request);         // 1: that ticket
        int owner = x.whose(202646);          // 1: it is that ticket's code
        int first = x.read(0, later, 60);     // 1: reader 0 lets it in at second 60
        int second = x.read(4, later, 70);    // 1: reader 4 knows nothing of reader 0
        int doubles = x.join();               // 1: the readers tell one another
        int reader = x.twice(0, 1);           // 4: the double is that of reader 4
        int guests = x.inside(65);            // 1
        boolean out = x.leaves(later, 300);   // true
        int left = x.inside(300);             // 0
        // </example>
        due(0, slot, "slot");
        due(3, most, "most");
        due(0, ticket, "ticket");
        due(SlotTickets.NONE, none, "none");
        due(0, request, "request");
        due(2, clauses, "clauses");
        due(3375, price, "price");
        due(1, got, "got");
        due(1, later, "later");
        due(1, owner, "owner");
        due(1, first, "first");
        due(1, second, "second");
        due(1, doubles, "doubles");
        due(4, reader, "reader");
        due(1, guests, "guests");
        due(true, out, "out");
        due(0, left, "left");
    }

    private static String between(String text, String begin, String end) {
        int from = text.indexOf(begin) + begin.length();
        int to = text.indexOf(end, from);
        return from < begin.length() || to < 0 ? "missing" : text.substring(from, to).stripIndent().strip();
    }

    private static void exampleIsTheReadmes(String readme) throws IOException {
        String here = between(Files.readString(THIS), "// <example>\n", "// </example>");
        due(here, between(readme, "```java\n", "```"), "README.md's example");
    }

    private static void everyCallIsNamed(String readme) {
        for (Method method : SlotTickets.class.getDeclaredMethods()) {
            if (Modifier.isPublic(method.getModifiers())) {
                due(true, readme.contains("| `" + method.getName() + "("), method.getName() + " named in README.md");
            }
        }
    }

    public static void main(String[] args) throws IOException {
        String readme = Files.readString(README);
        example();
        exampleIsTheReadmes(readme);
        everyCallIsNamed(readme);
        System.out.println(wrong == 0 ? "README.md is as due" : wrong + " faults");
        System.exit(wrong == 0 ? 0 : 1);
    }
}
