import java.util.Random;

/** Texts of rows, some of them with a fault or two. */
final class TextsByChance {
    private TextsByChance() {
    }

    static String next(Random chance) {
        StringBuilder text = new StringBuilder();
        int rows = chance.nextInt(5);
        int first = chance.nextInt(10);
        boolean mayRepeat = chance.nextInt(3) == 0;
        for (int i = 0; i < rows; i++) {
            text.append(mayRepeat ? chance.nextInt(10) : (first + 3 * i) % 10).append(':');
            text.append(number(chance)).append('+').append(number(chance)).append(';');
        }
        int faults = chance.nextBoolean() ? 0 : chance.nextInt(3);
        for (int i = 0; i < faults && text.length() > 0; i++) {
            int at = chance.nextInt(text.length());
            if (chance.nextBoolean()) {
                text.deleteCharAt(at);
            } else {
                text.setCharAt(at, "0129:+; x\u00b1".charAt(chance.nextInt(10)));
            }
        }
        return text.toString();
    }

    /** Of one to seven digits, the seventh being a fault. */
    private static int number(Random chance) {
        return chance.nextInt(1 << chance.nextInt(21));
    }
}
