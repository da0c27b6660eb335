import java.util.regex.Matcher;
import java.util.regex.Pattern;

/** The document's words on a wrong text taken literally: the first byte with which no right text begins. */
final class TariffWords {
    private static final Pattern ROWS = Pattern.compile("([0-9]:(0|[1-9][0-9]{0,5})\\+(0|[1-9][0-9]{0,5});)*");

    private TariffWords() {
    }

    static int wrongAt(String text) {
        for (int i = 1; i <= text.length(); i++) {
            if (!beginsRightText(text.substring(0, i))) {
                return i - 1;
            }
        }
        return ROWS.matcher(text).matches() ? -1 : text.length();
    }

    private static boolean beginsRightText(String prefix) {
        Matcher matcher = ROWS.matcher(prefix);
        if (!matcher.matches() && !matcher.hitEnd()) {
            return false;
        }
        String kinds = "";
        for (String row : prefix.split(";")) {
            if (!row.isEmpty() && kinds.indexOf(row.charAt(0)) >= 0) {
                return false;
            }
            kinds += row.isEmpty() ? "" : row.substring(0, 1);
        }
        return true;
    }
}
