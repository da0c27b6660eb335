import java.io.IOException;
import java.nio.file.Files;
import java.nio.file.Path;
import java.util.ArrayList;
import java.util.List;

/** The example of README.md: it stands here line for line, and its answers are the ones that it tells. */
public final class ReadmeTest {
    private static final String HERE = "src/test/java/ReadmeTest.java";

    public static void main(String[] args) throws IOException {
        List<String> told = linesBetween("README.md", "```java", "```");
        List<String> run = linesBetween(HERE, "// README begins", "// README ends");
        Check.same("README.md has an example", told.size() > 20, true);
        Check.same("the example of README.md", told, run);
        example();
        Check.finish("ReadmeTest");
    }

    private static List<String> linesBetween(String file, String begin, String end) throws IOException {
        List<String> lines = new ArrayList<>();
        boolean inside = false;
        for (String line : Files.readAllLines(Path.of(file))) {
            String text = line.strip();
            if (inside && text.equals(end)) {
                return lines;
            }
            if (inside) {
                lines.add(text);
            }
            inside = inside || text.equals(begin);
        }
        return lines;
    }

    private static void example() {
        // README begins
        CostBooks books = new CostBooks();

        books.budget(1, 2, 10_000);                 // year 1, kind 2: 100.00
        int order = books.order(1, 2, 4_000);       // 0, the first order; it holds 40.00
        books.invoice(order, 4_400);                // within the band of 100 thousandths
        int free = books.budgetAt(1, 2, 3);         // 5,600
        long inAYear = books.forecast(1, 2, 100);   // 16,060 when 100 days went by

        books.sign(0x313A3530302B3930L, 8);         // the tape: "1:500+90"
        books.sign(0x303B, 2);                      // "0;"
        int tariffRows = books.tariff();            // 1: kind 1 costs 500, and 900 an hour
        int bill = books.bill(1, 61, 99, 10);       // 500 + 2 * 900 + 99, due on day 10
        int toPay = books.pay(bill, 1_000);         // 1,399
        int reminded = books.remind(11);            // 1

        books.weight(0, 1);
        books.weight(1, 2);
        int ofHouse1 = books.share(1, 100);         // 67: 66 and the cent that is left

        int grant = books.grant(7, 5_000);          // 0, the first grant, of purpose 7
        int left = books.use(grant, 7, 1_200);      // 3,800

        books.close(0);
        books.row(3, 250);
        books.row(4, -250);
        int year = books.post(0);                   // 1, as year 0 is closed
        long balance = books.balance(4, year);      // -250
        // README ends
        Check.same("order", order, 0);
        Check.same("free", free, 5_600);
        Check.same("in a year", inAYear, 16_060L);
        Check.same("tariff rows", tariffRows, 1);
        Check.same("the bill", books.billAt(bill, 0), 2_399);
        Check.same("to pay", toPay, 1_399);
        Check.same("reminded", reminded, 1);
        Check.same("of house 1", ofHouse1, 67);
        Check.same("grant", grant, 0);
        Check.same("left", left, 3_800);
        Check.same("year", year, 1);
        Check.same("balance", balance, -250L);
    }
}
