/** Promises 7 to 13: versions. */
final class VersionsTest {
    static final int[] WRONG_SLOTS = {-1, 8, Integer.MIN_VALUE, Integer.MAX_VALUE};

    public static void main(String[] args) {
        promise7Parse();
        promise7ParseRefused();
        promise8Triple();
        promise8TripleRefused();
        promise9Copy();
        promise10Size();
        promise11Text();
        promise12Tokens();
        promise13Token();
        promise13TokenRefused();
        Check.end("VersionsTest");
    }

    private static void promise7Parse() {
        Releaseledger ledger = new Releaseledger();
        parsed(ledger, 0, "1.2", 1);
        parsed(ledger, 0, "1.2.0", 0);
        parsed(ledger, 0, "1.2-a", -1);
        parsed(ledger, 7, "00", 0);
        parsed(ledger, 7, "0-0", -1);
        parsed(ledger, 7, "0-0+1", 1);
        Check.due("1.2-a", "the slot that was not parsed into", () -> Check.told(ledger, 0));
        for (int slot = 0; slot < 8; slot++) {
            int each = slot;
            Check.write(ledger, "9." + slot);
            ledger.parse(slot);
            Check.due("9." + slot, "slot " + slot, () -> Check.told(ledger, each));
        }
        ledger.add(5, 0, '.');
        Check.due("9.7", "a slot when the draft goes on", () -> Check.told(ledger, 7));
    }

    private static void parsed(Releaseledger ledger, int slot, String text, int order) {
        Check.write(ledger, text);
        Check.due(order, "parse(" + slot + ") of " + text, () -> ledger.parse(slot));
        Check.due(text, "the draft that was parsed", () -> Check.draft(ledger));
        Check.due(text, "the slot that was parsed into", () -> Check.told(ledger, slot));
    }

    private static void promise7ParseRefused() {
        Releaseledger ledger = Check.holding("1");
        Check.refused(Check.ARGUMENT, ledger, "parse(0) of none", () -> ledger.parse(0));
        for (int slot : WRONG_SLOTS) {
            Check.refused(Check.SLOT, ledger, "parse(" + slot + ") of none", () -> ledger.parse(slot));
        }
        ledger.begin(4, 0);
        for (int slot : WRONG_SLOTS) {
            Check.refused(Check.SLOT, ledger, "parse(" + slot + ")", () -> ledger.parse(slot));
        }
    }

    private static void promise8Triple() {
        Releaseledger ledger = new Releaseledger();
        ledger.begin(77, 1);
        Check.due(1, "triple(2, 1, 20, 300)", () -> ledger.triple(2, 1, 20, 300));
        Check.due("1.20.300", "slot 2", () -> Check.told(ledger, 2));
        Check.due(-1, "triple(2, 1, 20, 299)", () -> ledger.triple(2, 1, 20, 299));
        Check.due(0, "triple(2, 1, 20, 299) again", () -> ledger.triple(2, 1, 20, 299));
        Check.due(1, "triple(2, 999999, 999999, 999999)", () -> ledger.triple(2, 999999, 999999, 999999));
        Check.due("999999.999999.999999", "slot 2", () -> Check.told(ledger, 2));
        Check.due(0, "triple(5, 0, 0, 0)", () -> ledger.triple(5, 0, 0, 0));
        Check.due("0.0.0", "slot 5", () -> Check.told(ledger, 5));
        Check.due("077", "the draft", () -> Check.draft(ledger));
    }

    private static void promise8TripleRefused() {
        Releaseledger ledger = Check.holding("1");
        for (int slot : WRONG_SLOTS) {
            Check.refused(Check.SLOT, ledger, "triple(" + slot + ", ..)", () -> ledger.triple(slot, 1, 2, 3));
            Check.refused(Check.SLOT, ledger, "triple(" + slot + ", -1, ..)", () -> ledger.triple(slot, -1, 2, 3));
        }
        for (int number : new int[] {-1, 1000000, Integer.MIN_VALUE, Integer.MAX_VALUE}) {
            Check.refused(Check.ARGUMENT, ledger, "first " + number, () -> ledger.triple(0, number, 2, 3));
            Check.refused(Check.ARGUMENT, ledger, "second " + number, () -> ledger.triple(0, 1, number, 3));
            Check.refused(Check.ARGUMENT, ledger, "third " + number, () -> ledger.triple(0, 1, 2, number));
        }
    }

    private static void promise9Copy() {
        Releaseledger ledger = Check.holding("1.2-a3+b", "1.2", "3");
        Check.due(-1, "copy(0, 1)", () -> ledger.copy(0, 1));
        Check.due("1.2-a3+b", "the copy", () -> Check.told(ledger, 1));
        Check.due("1.2-a3+b", "what was copied", () -> Check.told(ledger, 0));
        Check.due(1, "copy(2, 1)", () -> ledger.copy(2, 1));
        Check.due("3", "the second copy", () -> Check.told(ledger, 1));
        Check.due(0, "copy(2, 1) again", () -> ledger.copy(2, 1));
        Check.due(0, "copy(0, 0)", () -> ledger.copy(0, 0));
        Check.due("1.2-a3+b", "what was copied into itself", () -> Check.told(ledger, 0));
        ledger.triple(1, 4, 5, 6);
        Check.due("3", "what was copied, behind a change of the copy", () -> Check.told(ledger, 2));
        for (int slot : WRONG_SLOTS) {
            Check.refused(Check.SLOT, ledger, "copy(" + slot + ", 0)", () -> ledger.copy(slot, 0));
            Check.refused(Check.SLOT, ledger, "copy(0, " + slot + ")", () -> ledger.copy(0, slot));
        }
    }

    private static final String SIXTY = "000999999-a000999999999.1b2c3d4e5f6g7h8i9j0kLMNO.aa+b+c-d.e0";

    private static void promise10Size() {
        Releaseledger ledger = Check.holding("0", "1.2-a3+b", SIXTY);
        Check.due(1, "size(0)", () -> ledger.size(0));
        Check.due(8, "size(1)", () -> ledger.size(1));
        Check.due(60, "size(2)", () -> ledger.size(2));
        Check.due(1, "size(7)", () -> ledger.size(7));
        for (int slot : WRONG_SLOTS) {
            Check.refused(Check.SLOT, ledger, "size(" + slot + ")", () -> ledger.size(slot));
        }
    }

    private static void promise11Text() {
        Releaseledger ledger = Check.holding("1.2-a3+b", SIXTY);
        for (int place = 0; place < 60; place++) {
            int each = place;
            Check.due(SIXTY.charAt(place), "text(1, " + place + ")", () -> ledger.text(1, each));
        }
        Check.due('-', "text(0, 3)", () -> ledger.text(0, 3));
        Check.due('0', "text(7, 0)", () -> ledger.text(7, 0));
        for (int place : new int[] {-1, 8, 60, Integer.MIN_VALUE, Integer.MAX_VALUE}) {
            Check.refused(Check.SLOT, ledger, "text(0, " + place + ")", () -> ledger.text(0, place));
        }
        Check.refused(Check.SLOT, ledger, "text(1, 60)", () -> ledger.text(1, 60));
        for (int slot : WRONG_SLOTS) {
            Check.refused(Check.SLOT, ledger, "text(" + slot + ", 0)", () -> ledger.text(slot, 0));
        }
    }

    private static void promise12Tokens() {
        Releaseledger ledger = Check.holding("1.2-a3+b", "9A.B4-4+4+4-4.baaaa", "1a2b.3", "1-a.b-c", SIXTY);
        tokened(ledger, 0, 2, 2, 1);
        tokened(ledger, 1, 4, 1, 4);
        tokened(ledger, 2, 5, 0, 0);
        tokened(ledger, 3, 1, 3, 0);
        tokened(ledger, 4, 1, 23, 5);
        tokened(ledger, 7, 1, 0, 0);
        for (int row : new int[] {-1, 3, Integer.MIN_VALUE, Integer.MAX_VALUE}) {
            Check.refused(Check.ARGUMENT, ledger, "tokens(0, " + row + ")", () -> ledger.tokens(0, row));
            Check.refused(Check.SLOT, ledger, "tokens(8, " + row + ")", () -> ledger.tokens(8, row));
        }
        for (int slot : WRONG_SLOTS) {
            Check.refused(Check.SLOT, ledger, "tokens(" + slot + ", 0)", () -> ledger.tokens(slot, 0));
        }
    }

    private static void tokened(Releaseledger ledger, int slot, int... counts) {
        for (int row = 0; row < counts.length; row++) {
            int each = row;
            Check.due(counts[row], "tokens(" + slot + ", " + row + ")", () -> ledger.tokens(slot, each));
        }
    }

    private static void promise13Token() {
        Releaseledger ledger = Check.holding("0012.999999999a-bcd3.000+Z0-ABCDE+00040", "1a1a", SIXTY);
        tokensAre(ledger, 0, 0, 12, 999999999, -2);
        tokensAre(ledger, 0, 1, -4, 3, 0);
        tokensAre(ledger, 0, 2, -2, 0, -6, 40);
        tokensAre(ledger, 1, 0, 1, -2, 1, -2);
        tokensAre(ledger, 2, 0, 999999);
        tokensAre(ledger, 2, 1, -2, 999999999, 1, -2, 2, -2, 3,
                -2, 4, -2, 5, -2, 6, -2, 7, -2, 8, -2, 9, -2, 0, -6, -3);
        tokensAre(ledger, 2, 2, -2, -2, -2, -2, 0);
        tokensAre(ledger, 7, 0, 0);
    }

    private static void tokensAre(Releaseledger ledger, int slot, int row, int... sizes) {
        for (int place = 0; place < sizes.length; place++) {
            int each = place;
            Check.due(sizes[place], "token(" + slot + ", " + row + ", " + place + ")",
                    () -> ledger.token(slot, row, each));
        }
        Check.refused(Check.SLOT, ledger, "token behind the row", () -> ledger.token(slot, row, sizes.length));
    }

    private static void promise13TokenRefused() {
        Releaseledger ledger = Check.holding("1.2-a3+b", "1");
        for (int place : new int[] {-1, 2, 3, Integer.MIN_VALUE, Integer.MAX_VALUE}) {
            Check.refused(Check.SLOT, ledger, "token(0, 0, " + place + ")", () -> ledger.token(0, 0, place));
            Check.refused(Check.SLOT, ledger, "token(0, 1, " + place + ")", () -> ledger.token(0, 1, place));
        }
        Check.refused(Check.SLOT, ledger, "token(0, 2, 1)", () -> ledger.token(0, 2, 1));
        Check.refused(Check.SLOT, ledger, "token(1, 1, 0)", () -> ledger.token(1, 1, 0));
        Check.refused(Check.SLOT, ledger, "token(1, 2, 0)", () -> ledger.token(1, 2, 0));
        for (int row : new int[] {-1, 3, Integer.MIN_VALUE, Integer.MAX_VALUE}) {
            Check.refused(Check.ARGUMENT, ledger, "token(0, " + row + ", 0)", () -> ledger.token(0, row, 0));
            Check.refused(Check.ARGUMENT, ledger, "token(0, " + row + ", 99)", () -> ledger.token(0, row, 99));
            Check.refused(Check.SLOT, ledger, "token(-1, " + row + ", 0)", () -> ledger.token(-1, row, 0));
        }
        for (int slot : WRONG_SLOTS) {
            Check.refused(Check.SLOT, ledger, "token(" + slot + ", 0, 0)", () -> ledger.token(slot, 0, 0));
        }
    }
}
