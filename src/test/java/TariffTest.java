import java.util.Random;

/** Promises 8 to 10: sign, tariff, place. */
public final class TariffTest {
    public static void main(String[] args) {
        bytesHighestFirst();
        signRefusals();
        twoHundredBytes();
        lastBytesOfTheTape();
        everyNumberOfBytes();
        rightTexts();
        wrongTexts();
        emptyText();
        wrongTextChangesNoTariff();
        rightTextReplacesAll();
        eachKindIsReplaced();
        textsForgetWhatWasBefore();
        bytesThatAreNoDigits();
        eachBeginningOfAText();
        eachByteAtEachPlace();
        eachKindTwice();
        numbersOfEachLength();
        longestTexts();
        textsByChance();
        Check.finish("TariffTest");
    }

    private static void bytesHighestFirst() {
        CostBooks books = new CostBooks();
        Check.answers("8 bytes", 8, () -> books.sign(0x313A32332B343536L, 8));
        Check.answers("1 byte", 9, () -> books.sign(0x3B, 1));
        Check.answers("only the lowest 3", 12, () -> books.sign(0x7F7F7F7F7F323A37L, 3));
        Check.answers("3 more", 15, () -> books.sign(0xFFFFFFFFFF2B303BL, 3));
        Check.answers("two rows", 2, books::tariff);
        Check.answers("place", -1, books::place);
        books.bill(1, 60, 0, 0);
        books.bill(2, 60, 0, 0);
        Check.answers("23+456", 479, () -> books.billAt(0, 0));
        Check.answers("7+0", 7, () -> books.billAt(1, 0));
    }

    private static void signRefusals() {
        CostBooks books = new CostBooks();
        books.sign('1', 1);
        for (int bad : Check.OUTSIDE_ALL) {
            Check.refuses("sign " + bad, Check.RANGE, () -> books.sign(0, bad));
        }
        Check.refuses("sign 0", Check.RANGE, () -> books.sign('1', 0));
        Check.refuses("sign 9", Check.RANGE, () -> books.sign('1', 9));
        Check.answers("the tape is as before", 2, () -> books.sign(':', 1));
    }

    private static void twoHundredBytes() {
        CostBooks books = new CostBooks();
        for (int i = 1; i <= 24; i++) {
            int length = 8 * i;
            Check.answers("sign up to " + length, length, () -> books.sign(0, 8));
        }
        Check.answers("199 bytes", 199, () -> books.sign(0, 7));
        Check.refuses("201 bytes", Check.NO_ROOM, () -> books.sign(0, 2));
        Check.refuses("207 bytes", Check.NO_ROOM, () -> books.sign(0, 8));
        Check.refuses("range before room", Check.RANGE, () -> books.sign(0, 9));
        Check.answers("200 bytes", 200, () -> books.sign(0, 1));
        Check.refuses("no room at all", Check.NO_ROOM, () -> books.sign(0, 1));
        Check.refuses("a wrong text", Check.STATE, books::tariff);
        Check.answers("place", 0, books::place);
        Check.answers("the tape is empty", 8, () -> books.sign(0, 8));
    }

    private static void lastBytesOfTheTape() {
        CostBooks whole = new CostBooks();
        for (int i = 0; i < 24; i++) {
            whole.sign(0, 8);
        }
        Check.answers("8 bytes up to 200", 200, () -> whole.sign(0, 8));
        for (int n = 1; n <= 8; n++) {
            int many = n;
            CostBooks books = new CostBooks();
            for (int i = 0; i < 24; i++) {
                books.sign(0, 8);
            }
            books.sign(0, 9 - n);
            Check.refuses("one byte too many, by " + n, Check.NO_ROOM, () -> books.sign(0, many));
            if (n > 1) {
                Check.answers("just 200, by " + (n - 1), 200, () -> books.sign(0, many - 1));
            }
        }
    }

    private static void everyNumberOfBytes() {
        String text = "7:123456+98765;8:0+1;9:22+333;";
        for (int n = 1; n <= 8; n++) {
            CostBooks books = new CostBooks();
            for (int at = 0; at < text.length(); at += n) {
                int many = Math.min(n, text.length() - at);
                // All ones in front: bytes above the lowest n are none of the text.
                long bytes = -1;
                for (int i = 0; i < many; i++) {
                    bytes = bytes << 8 | text.charAt(at + i);
                }
                long packed = bytes;
                Check.answers("bytes by " + n, at + many, () -> books.sign(packed, many));
            }
            Check.answers("rows by " + n, 3, books::tariff);
            books.bill(7, 60, 0, 0);
            books.bill(9, 60, 0, 0);
            Check.answers("a charge by " + n, 222_221, () -> books.billAt(0, 0));
            Check.answers("a charge by " + n, 355, () -> books.billAt(1, 0));
        }
    }

    private static void right(String text, int rows) {
        CostBooks books = new CostBooks();
        Check.write(books, text);
        Check.answers("tariff " + text, rows, books::tariff);
        Check.answers("place of " + text, -1, books::place);
        Check.answers("the tape behind " + text, 1, () -> books.sign('1', 1));
    }

    private static void wrong(String text, int place) {
        CostBooks books = new CostBooks();
        Check.write(books, text);
        Check.refuses("tariff " + text, Check.STATE, books::tariff);
        Check.answers("place of " + text, place, books::place);
        Check.answers("the tape behind " + text, 1, () -> books.sign('1', 1));
    }

    private static void rightTexts() {
        right("0:0+0;", 1);
        right("9:999999+999999;", 1);
        right("5:100000+1;", 1);
        right("5:1+10;4:10+0;", 2);
        StringBuilder all = new StringBuilder();
        for (int kind = 9; kind >= 0; kind--) {
            all.append(kind).append(":123456+654321;");
        }
        right(all.toString(), 10);
        wrong(all + "3:1+1;", 160);
        wrong(all + ";", 160);
    }

    private static void wrongTexts() {
        wrong("a", 0);
        wrong(":", 0);
        wrong("/", 0);
        wrong(" 1:1+1;", 0);
        wrong("1", 1);
        wrong("11", 1);
        wrong("1:", 2);
        wrong("1:+1;", 2);
        wrong("1:-1+1;", 2);
        wrong("1:;", 2);
        wrong("1:01+1;", 3);
        wrong("1:00+1;", 3);
        wrong("1:0", 3);
        wrong("1:0;", 3);
        wrong("1:123456", 8);
        wrong("1:1234567+1;", 8);
        wrong("1:123456:", 8);
        wrong("1:1+", 4);
        wrong("1:1+;", 4);
        wrong("1:1++", 4);
        wrong("1:1+1", 5);
        wrong("1:1+1+", 5);
        wrong("1:1+01;", 5);
        wrong("1:1+00;", 5);
        wrong("1:1+1234567;", 10);
        wrong("1:1+123456", 10);
        wrong("1:1+1; ", 6);
        wrong("1:1+1;\n", 6);
        wrong("1:1+1;1", 6);
        wrong("1:1+1;2:1+1;1:1+1;", 12);
        wrong("1:1+1;2", 7);
        wrong("1 :1+1;", 1);
    }

    private static void emptyText() {
        CostBooks books = Check.withTariff("1:1+1;");
        Check.answers("an empty text", 0, books::tariff);
        Check.answers("place", -1, books::place);
        Check.refuses("all kinds are free", Check.STATE, () -> books.bill(1, 0, 0, 0));
    }

    private static void wrongTextChangesNoTariff() {
        CostBooks books = Check.withTariff("1:5+7;2:3+0;");
        Check.write(books, "1:9+9;3:8+8;2:4+x");
        Check.refuses("wrong at its end", Check.STATE, books::tariff);
        Check.answers("place", 16, books::place);
        books.bill(1, 60, 0, 0);
        books.bill(2, 60, 0, 0);
        Check.answers("kind 1 as before", 12, () -> books.billAt(0, 0));
        Check.answers("kind 2 as before", 3, () -> books.billAt(1, 0));
        Check.refuses("kind 3 as before", Check.STATE, () -> books.bill(3, 60, 0, 0));
        Check.answers("place stays", 16, books::place);
        Check.write(books, "4:1+1;");
        Check.answers("place is of the latest text, not of the tape", 16, books::place);
        Check.answers("right again", 1, books::tariff);
        Check.answers("place of the latest", -1, books::place);
    }

    private static void rightTextReplacesAll() {
        CostBooks books = Check.withTariff("1:5+7;2:3+0;");
        Check.write(books, "2:0+1;");
        Check.answers("one row", 1, books::tariff);
        Check.refuses("kind 1 has no row now", Check.STATE, () -> books.bill(1, 60, 0, 0));
        books.bill(2, 60, 0, 0);
        Check.answers("kind 2 is new", 1, () -> books.billAt(0, 0));
        Check.write(books, "2:0+0;");
        Check.answers("one row of nothing", 1, books::tariff);
        Check.refuses("0+0 is free", Check.STATE, () -> books.bill(2, 60, 0, 0));
    }

    private static void eachKindIsReplaced() {
        for (int kind = 0; kind < 10; kind++) {
            int k = kind;
            CostBooks books = Check.withTariff(kind + ":5+7;");
            books.bill(kind, 60, 0, 0);
            Check.answers("kind " + kind, 12, () -> books.billAt(0, 0));
            Check.write(books, kind + ":6+8;");
            Check.answers("kind " + kind + " told in a later text", 1, books::tariff);
            books.bill(kind, 60, 0, 0);
            Check.answers("kind " + kind + " anew", 14, () -> books.billAt(1, 0));
            Check.write(books, (kind + 1) % 10 + ":1+1;");
            Check.answers("another kind", 1, books::tariff);
            Check.refuses("kind " + kind + " is free now", Check.STATE, () -> books.bill(k, 60, 0, 0));
        }
    }

    private static void textsForgetWhatWasBefore() {
        String[] broken = {"1", "1:", "1:0", "1:12345", "1:1+", "1:1+0", "1:1+123456", "1:1+1;2:"};
        for (String text : broken) {
            CostBooks books = new CostBooks();
            Check.write(books, text);
            Check.refuses("broken " + text, Check.STATE, books::tariff);
            Check.write(books, "1:123456+654321;");
            Check.answers("a text behind " + text, 1, books::tariff);
            books.bill(1, 60, 0, 0);
            Check.answers("the tariff behind " + text, 777_777, () -> books.billAt(0, 0));
        }
    }

    private static void bytesThatAreNoDigits() {
        for (int b = 0; b < 256; b++) {
            if (b < '0' || b > '9') {
                CostBooks books = new CostBooks();
                books.sign(b, 1);
                Check.refuses("byte " + b, Check.STATE, books::tariff);
                Check.answers("place of byte " + b, 0, books::place);
            }
        }
        CostBooks books = new CostBooks();
        books.sign(0xFFFFFFFFFFFFFFB1L, 1);
        Check.refuses("177 is no digit", Check.STATE, books::tariff);
    }

    private static void eachBeginningOfAText() {
        String text = "3:120000+0;4:0+654321;0:7+8;";
        for (int length = 0; length <= text.length(); length++) {
            String beginning = text.substring(0, length);
            if (length == 0 || beginning.endsWith(";")) {
                right(beginning, beginning.split(";").length - (length == 0 ? 1 : 0));
            } else {
                wrong(beginning, length);
            }
        }
    }

    private static void eachByteAtEachPlace() {
        String text = "3:10+0;4:0+654321;";
        for (int at = 0; at < text.length(); at++) {
            for (int b = 0; b < 256; b++) {
                String other = text.substring(0, at) + (char) b + text.substring(at + 1);
                int place = TariffWords.wrongAt(other);
                if (place < 0) {
                    right(other, 2);
                } else {
                    wrong(other, place);
                }
            }
        }
    }

    private static void eachKindTwice() {
        for (int kind = 0; kind < 10; kind++) {
            int other = (kind + 1) % 10;
            wrong(kind + ":1+1;" + kind + ":1+1;", 6);
            wrong(kind + ":1+1;" + other + ":1+1;" + kind, 12);
            wrong(kind + ":0+0;" + kind, 6);
            right(kind + ":1+1;" + other + ":1+1;", 2);
        }
    }

    private static void numbersOfEachLength() {
        for (int digits = 1; digits <= 8; digits++) {
            String number = "98765432".substring(0, digits);
            String noughts = "10000000".substring(0, digits);
            if (digits <= 6) {
                right("1:" + number + "+0;", 1);
                right("1:0+" + number + ";", 1);
                right("1:" + noughts + "+" + noughts + ";", 1);
            } else {
                wrong("1:" + number + "+0;", 8);
                wrong("1:0+" + number + ";", 10);
                wrong("1:" + noughts + "+0;", 8);
            }
            wrong("1:0" + number + "+0;", 3);
            wrong("1:0+0" + number + ";", 5);
        }
    }

    private static void longestTexts() {
        StringBuilder rows = new StringBuilder();
        for (int kind = 0; kind < 10; kind++) {
            rows.append(kind).append(":999999+999999;");
        }
        while (rows.length() < 200) {
            rows.append(';');
        }
        wrong(rows.toString(), 160);
        wrong(rows.replace(160, 200, "0:1+1;1:1+1;2:1+1;3:1+1;4:1+1;5:1+1;6:1+").toString(), 160);
        wrong("1:1+1;" + "x".repeat(194), 6);
    }

    private static void textsByChance() {
        Random chance = new Random(9);
        for (int i = 0; i < 20_000; i++) {
            String text = TextsByChance.next(chance);
            CostBooks books = new CostBooks();
            Check.write(books, text);
            int place = TariffWords.wrongAt(text);
            if (place < 0) {
                Check.answers("chance " + text, text.chars().filter(c -> c == ';').count(), books::tariff);
            } else {
                Check.refuses("chance " + text, Check.STATE, books::tariff);
            }
            Check.answers("chance place " + text, place, books::place);
        }
    }
}
