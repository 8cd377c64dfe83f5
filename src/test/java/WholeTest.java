/** Promises 25 to 28: all of them. */
final class WholeTest {
    public static void main(String[] args) {
        promise25IsHashed();
        promise26WordShare();
        promise27Checksum();
        promise27ChecksumEachSign();
        promise28IsTrue();
        Check.end("WholeTest");
    }

    private static final String SIXTY = "999999.999999999.999999999.999999999.999999999.aaa-a+b-c.d+e";

    private static void promise25IsHashed() {
        Releaseledger ledger = Check.holding("1", "1.0", "1-a", SIXTY, "2-b+c");
        String before = Check.state(ledger);
        for (int slot = 0; slot < 8; slot++) {
            int each = slot;
            Check.due(true, "isHashed(" + slot + ")", () -> ledger.isHashed(each));
        }
        Check.due(before, "the state behind isHashed()", () -> Check.state(ledger));
        for (int slot : VersionsTest.WRONG_SLOTS) {
            Check.refused(Check.SLOT, ledger, "isHashed(" + slot + ")", () -> ledger.isHashed(slot));
        }
    }

    private static void promise26WordShare() {
        Releaseledger fresh = new Releaseledger();
        Check.due(0f, "wordShare() of new slots", fresh::wordShare);
        fresh.begin(1, 0);
        fresh.word(1, 5, 'n');
        Check.due(0f, "wordShare() with words in the draft", fresh::wordShare);
        fresh.parse(4);
        Check.due(1f / 9f, "wordShare() of one word", fresh::wordShare);
        Check.due(15f / 24f, "wordShare() of each row",
                () -> Check.holding("1a", "2-b", "3-b+c", "4a.b-c-d+e+f", "5a", "6a", "7a-0-a", "8a").wordShare());
        Check.due(2f / 11f, "wordShare() of 2 by 11", () -> Check.holding("1-b+c", "2.0").wordShare());
    }

    private static void promise27Checksum() {
        Releaseledger ledger = new Releaseledger();
        Check.due(summed("", "0", "0", "0", "0", "0", "0", "0", "0"), "checksum() of a new one", ledger::checksum);
        Check.write(ledger, "1.2-ab");
        Check.due(summed("1.2-ab", "0", "0", "0", "0", "0", "0", "0", "0"), "checksum() of a draft", ledger::checksum);
        ledger.parse(0);
        ledger.triple(7, 3, 4, 5);
        ledger.zero(0, 3);
        Check.due(summed("1.2-ab", "1.2-ab", "0", "0", "1.2-ab.0", "0", "0", "0", "3.4.5"), "checksum()",
                ledger::checksum);
        ledger.drop();
        Check.write(ledger, SIXTY);
        ledger.parse(5);
        Check.due(summed(SIXTY, "1.2-ab", "0", "0", "1.2-ab.0", "0", SIXTY, "0", "3.4.5"), "checksum() of 60 signs",
                ledger::checksum);
    }

    /** Two states that differ in but one sign, or one slot, have other checksums. */
    private static void promise27ChecksumEachSign() {
        for (int slot = 0; slot < 8; slot++) {
            String[] texts = {"0", "0", "0", "0", "0", "0", "0", "0"};
            texts[slot] = "1-Z";
            Check.due(summed("", texts), "checksum() with 1-Z in slot " + slot, () -> Check.holding(texts).checksum());
        }
    }

    private static long summed(String draft, String... slots) {
        long sum = addTo(23, draft);
        for (String text : slots) {
            sum = addTo(sum, text);
        }
        return sum;
    }

    private static long addTo(long sum, String text) {
        long more = 31 * sum + text.length();
        for (char sign : text.toCharArray()) {
            more = 31 * more + sign;
        }
        return more;
    }

    private static void promise28IsTrue() {
        Check.due(true, "isTrue() of new slots", () -> new Releaseledger().isTrue());
        String[][] ledgers = {
            {"1", "1.0", "01", "1-a", "1-a.0", "1-a+0", "1-b", "2"},
            {"1.a", "1a0", "1.0.a", "1.1", "1.A", "1-0", "1-0+a", "1-0+0a"},
            {SIXTY, SIXTY, "999999.999999999.999999999.999999999.999999999.aaa-a+b-c.d", "0", "0-0"},
            {"999999.999999999.999999999.999999999.999999999.999999999.aaa"},
            {"999999.999999999.999999999.999999999.999999999.999999999.aa"},
            {"999999.999999999.999999999.999999999.999999999.999999999.a"},
        };
        for (String[] texts : ledgers) {
            Releaseledger ledger = Check.holding(texts);
            ledger.begin(7, 2);
            String before = Check.state(ledger);
            Check.due(true, "isTrue()", ledger::isTrue);
            Check.due(before, "the state behind isTrue()", () -> Check.state(ledger));
        }
    }
}
