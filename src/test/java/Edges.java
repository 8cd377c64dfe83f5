import java.util.function.Supplier;

/** What the edge tests share: ranges, ways and slots with the values next to them, and texts of a given length. */
final class Edges {
    static final char[] WAYS = {'n', '.', '-', '+'};
    private static final int FAR = 1023;

    interface OnNumber {
        Object answer(Releaseledger ledger, int number);
    }

    interface OnSign {
        Object answer(Releaseledger ledger, char sign);
    }

    private Edges() {
    }

    /** The least and the greatest number are taken; the next ones and the farthest ones are not. */
    static void range(Class<?> due, int least, int most, String what, Supplier<Releaseledger> made, OnNumber call) {
        for (int number : new int[] {least, least + 1, most - 1, most}) {
            if (number >= least && number <= most) {
                Releaseledger ledger = made.get();
                Check.taken(what + " of " + number, () -> call.answer(ledger, number));
            }
        }
        for (int number : new int[] {least - 1, most + 1, Integer.MIN_VALUE, Integer.MAX_VALUE}) {
            Releaseledger ledger = made.get();
            Check.refused(due, ledger, what + " of " + number, () -> call.answer(ledger, number));
        }
    }

    static void slots(String what, Supplier<Releaseledger> made, OnNumber call) {
        range(Check.SLOT, 0, 7, what, made, call);
        for (int slot = 0; slot < 8; slot++) {
            int each = slot;
            Releaseledger ledger = made.get();
            Check.taken(what + " of slot " + slot, () -> call.answer(ledger, each));
        }
    }

    /** Of all signs up to some far one, and of the last ones, just these are taken. */
    static void signs(Class<?> due, String taken, String what, Supplier<Releaseledger> made, OnSign call) {
        for (int code = 0; code < 65536; code = code == FAR ? 65536 - FAR : code + 1) {
            char sign = (char) code;
            Releaseledger ledger = made.get();
            if (taken.indexOf(sign) >= 0) {
                Check.taken(what + " of sign " + code, () -> call.answer(ledger, sign));
            } else {
                Check.refused(due, ledger, what + " of sign " + code, () -> call.answer(ledger, sign));
            }
        }
    }

    /** A text of numbers alone that has so many signs: ones, nine of them at most in a number. */
    static String textOf(int signs) {
        StringBuilder text = new StringBuilder(signs % 10 == 2 ? "11" : "1");
        while (text.length() < signs) {
            int digits = Math.min(9, signs - text.length() - 1);
            text.append('.').append("1".repeat(digits));
        }
        return text.toString();
    }

    /** A text of so many signs that ends with this. */
    static String textOf(int signs, String end) {
        return textOf(signs - end.length()) + end;
    }

    static Releaseledger drafting(String draft) {
        Releaseledger ledger = new Releaseledger();
        Check.write(ledger, draft);
        return ledger;
    }

    /** A ledger with these versions in its slots, and 7.8 as its draft. */
    static Releaseledger holding(String... texts) {
        Releaseledger ledger = Check.holding(texts);
        Check.write(ledger, "7.8");
        return ledger;
    }

    static String joined(String draft, char how, String token) {
        return how == 'n' ? draft + token : draft + how + token;
    }
}
