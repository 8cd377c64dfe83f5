/** Promises 21 to 24: what is put behind. */
final class BehindTest {
    private static final String NUMBERS_56 = "999999.999999999.999999999.999999999.999999999.999999999";

    public static void main(String[] args) {
        promise21Zero();
        promise22Longer();
        promise23Early();
        promise24Built();
        Check.end("BehindTest");
    }

    private static void landed(Releaseledger ledger, int to, String text, String... others) {
        Check.due(text, "what was put behind", () -> Check.told(ledger, to));
        for (int slot = 0; slot < others.length; slot++) {
            int each = slot;
            if (slot != to) {
                Check.due(others[slot], "slot " + slot + ", which stays", () -> Check.told(ledger, each));
            }
        }
        Check.due("7", "the draft, which stays", () -> Check.draft(ledger));
    }

    private static Releaseledger drafted(String... texts) {
        Releaseledger ledger = Check.holding(texts);
        ledger.begin(7, 0);
        return ledger;
    }

    private static void wrongSlots(Releaseledger ledger, java.util.function.IntBinaryOperator call, String what) {
        for (int slot : VersionsTest.WRONG_SLOTS) {
            Check.refused(Check.SLOT, ledger, what + " from " + slot, () -> call.applyAsInt(slot, 0));
            Check.refused(Check.SLOT, ledger, what + " to " + slot, () -> call.applyAsInt(0, slot));
        }
    }

    private static void promise21Zero() {
        for (String text : new String[] {"1", "1.2a", "1-a", "1-2", "1-a+b", "1-a+3"}) {
            Releaseledger ledger = drafted("5", text);
            Check.due(true, "zero(1, 3) of " + text, () -> ledger.zero(1, 3));
            landed(ledger, 3, text + ".0", "5", text, "0");
            Check.due(0, "how it compares", () -> ledger.compare(1, 3));
            Check.due(true, "zero(1, 1) of " + text, () -> ledger.zero(1, 1));
            landed(ledger, 1, text + ".0", "5", "", "0");
        }
        String full = NUMBERS_56 + ".aa";
        Releaseledger ledger = drafted(full);
        Check.due(59, "the signs there are", () -> ledger.size(0));
        Check.refused(Check.STATE, ledger, "zero of 59", () -> ledger.zero(0, 1));
        Check.refused(Check.SLOT, ledger, "zero of 59 to 8", () -> ledger.zero(0, 8));
        Releaseledger fits = drafted(NUMBERS_56 + "-a");
        Check.due(true, "zero of 58", () -> fits.zero(0, 1));
        Check.due(60, "the signs there are then", () -> fits.size(1));
        Check.refused(Check.STATE, fits, "zero of 60", () -> fits.zero(1, 1));
        wrongSlots(drafted("1"), (slot, to) -> drafted("1").zero(slot, to) ? 1 : 0, "zero");
    }

    private static void promise22Longer() {
        for (String text : new String[] {"1", "1.2a", "1-a", "1-2", "1-a+b", "1-a+3"}) {
            for (int number : new int[] {1, 9, 10, 99, 100, 999}) {
                Releaseledger ledger = drafted("5", text);
                Check.due(true, "longer(1, " + number + ", 3) of " + text, () -> ledger.longer(1, number, 3));
                landed(ledger, 3, text + "." + number, "5", text, "0");
                Check.due(1, "how it compares", () -> ledger.compare(3, 1));
                Check.due(true, "longer(1, " + number + ", 1) of " + text, () -> ledger.longer(1, number, 1));
                landed(ledger, 1, text + "." + number, "5", "", "0");
            }
        }
        Releaseledger ledger = drafted(NUMBERS_56, NUMBERS_56 + "a");
        Check.refused(Check.STATE, ledger, "longer by 4 of 57", () -> ledger.longer(1, 100, 2));
        Check.due(true, "longer by 3 of 57", () -> ledger.longer(1, 99, 2));
        Check.due(true, "longer by 4 of 56", () -> ledger.longer(0, 999, 2));
        Check.refused(Check.STATE, ledger, "longer by 2 of 60", () -> ledger.longer(2, 1, 3));
        for (int number : new int[] {0, -1, 1000, Integer.MIN_VALUE, Integer.MAX_VALUE}) {
            Check.refused(Check.ARGUMENT, ledger, "longer by " + number, () -> ledger.longer(0, number, 3));
            Check.refused(Check.ARGUMENT, ledger, "longer by " + number + " of 60", () -> ledger.longer(2, number, 3));
            Check.refused(Check.SLOT, ledger, "longer by " + number + " of none", () -> ledger.longer(8, number, 3));
            Check.refused(Check.SLOT, ledger, "longer by " + number + " to none", () -> ledger.longer(0, number, -1));
        }
        Releaseledger plain = drafted("1");
        wrongSlots(plain, (slot, to) -> plain.longer(slot, 1, to) ? 1 : 0, "longer");
    }

    private static void promise23Early() {
        for (String text : new String[] {"1", "1.2a", "1.0", "000", "1.2.3"}) {
            for (char letter : new char[] {'a', 'm', 'z'}) {
                Releaseledger ledger = drafted("5", text);
                Check.due(true, "early(1, '" + letter + "', 3) of " + text, () -> ledger.early(1, letter, 3));
                landed(ledger, 3, text + "-" + letter, "5", text, "0");
                Check.due(-1, "how it compares", () -> ledger.compare(3, 1));
                Check.due(true, "early(1, '" + letter + "', 1) of " + text, () -> ledger.early(1, letter, 1));
                landed(ledger, 1, text + "-" + letter, "5", "", "0");
                Check.refused(Check.STATE, ledger, "early again", () -> ledger.early(1, letter, 3));
            }
        }
        Releaseledger ledger = drafted("1-0", "1-a+b", NUMBERS_56 + "aa", NUMBERS_56 + "aaa");
        Check.refused(Check.STATE, ledger, "early of 1-0", () -> ledger.early(0, 'a', 4));
        Check.refused(Check.STATE, ledger, "early of 1-a+b", () -> ledger.early(1, 'a', 4));
        Check.refused(Check.STATE, ledger, "early of 59", () -> ledger.early(3, 'a', 4));
        Check.due(true, "early of 58", () -> ledger.early(2, 'a', 4));
        for (char letter : new char[] {'A', 'Z', '`', '{', '0', '-', ' ', 0, 225, 65535}) {
            Check.refused(Check.ARGUMENT, ledger, "early " + (int) letter, () -> ledger.early(2, letter, 4));
            Check.refused(Check.ARGUMENT, ledger, "early again " + (int) letter, () -> ledger.early(0, letter, 4));
            Check.refused(Check.SLOT, ledger, "early of none " + (int) letter, () -> ledger.early(-1, letter, 4));
            Check.refused(Check.SLOT, ledger, "early to none " + (int) letter, () -> ledger.early(2, letter, 8));
        }
        Check.refused(Check.SLOT, ledger, "early again to none", () -> ledger.early(0, 'a', 8));
        Releaseledger plain = drafted("1");
        wrongSlots(plain, (slot, to) -> plain.early(slot, 'a', to) ? 1 : 0, "early");
    }

    private static void promise24Built() {
        for (String text : new String[] {"1-a", "1.2a-0", "1-a0", "000-a.b-c", "1-Z"}) {
            for (int number : new int[] {0, 1, 9, 10, 99, 100, 999}) {
                int order = number == 0 ? 0 : 1;
                Releaseledger ledger = drafted("5", text);
                Check.due(order, "built(1, " + number + ", 3) of " + text, () -> ledger.built(1, number, 3));
                landed(ledger, 3, text + "+" + number, "5", text, "0");
                Check.due(order, "how it compares", () -> ledger.compare(3, 1));
                Check.due(order, "built(1, " + number + ", 1) of " + text, () -> ledger.built(1, number, 1));
                landed(ledger, 1, text + "+" + number, "5", "", "0");
                Check.refused(Check.STATE, ledger, "built again", () -> ledger.built(1, number, 3));
            }
        }
        String numbers45 = "99999.999999999.999999999.999999999.999999999";
        Releaseledger ledger = drafted("1", "1-a+b", numbers45 + "-aaaa.aaaaa", numbers45 + "-aaaaa.aaaaa");
        Check.refused(Check.STATE, ledger, "built of 1", () -> ledger.built(0, 1, 4));
        Check.refused(Check.STATE, ledger, "built of 1-a+b", () -> ledger.built(1, 1, 4));
        Check.due(57, "the signs there are", () -> ledger.size(3));
        Check.refused(Check.STATE, ledger, "built by 4 of 57", () -> ledger.built(3, 100, 4));
        Check.due(1, "built by 3 of 57", () -> ledger.built(3, 99, 4));
        Check.due(0, "built by 2 of 57", () -> ledger.built(3, 0, 4));
        Check.due(59, "the signs there are then", () -> ledger.size(4));
        for (int number : new int[] {-1, 1000, Integer.MIN_VALUE, Integer.MAX_VALUE}) {
            Check.refused(Check.ARGUMENT, ledger, "built by " + number, () -> ledger.built(2, number, 4));
            Check.refused(Check.ARGUMENT, ledger, "built by " + number + " of 1", () -> ledger.built(0, number, 4));
            Check.refused(Check.SLOT, ledger, "built by " + number + " of none", () -> ledger.built(8, number, 4));
            Check.refused(Check.SLOT, ledger, "built by " + number + " to none", () -> ledger.built(2, number, -1));
        }
        Check.refused(Check.SLOT, ledger, "built of 1 to none", () -> ledger.built(0, 1, 8));
        Releaseledger plain = drafted("1-a");
        wrongSlots(plain, (slot, to) -> plain.built(slot, 1, to), "built");
    }
}
