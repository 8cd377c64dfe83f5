import java.math.BigInteger;

/** Promises 25 to 28, all of them: each sentence that names a boundary case has a test of its own. */
final class WholeEdgesTest {
    private static final String FULL = Edges.textOf(60);
    private static final String FULL_EARLY = Edges.textOf(60, "-a");
    private static final String FULL_BUILT = Edges.textOf(60, "-a+Z");

    public static void main(String[] args) {
        promise25IsHashed();
        promise26WordShare();
        promise27Checksum();
        promise27ChecksumOfAllSigns();
        promise28IsTrue();
        Check.end("WholeEdgesTest");
    }

    private static void promise25IsHashed() {
        Check.sentence("25: slot 0 to 7, with IndexOutOfBoundsException otherwise", () -> Edges.slots("isHashed",
                () -> Edges.holding("1", FULL), Releaseledger::isHashed));
        Check.sentence("25: returns whether it is: always true", () -> {
            for (String text : new String[] {"0", "0000", "1-0", "1-a+0", FULL, FULL_EARLY, FULL_BUILT}) {
                Releaseledger ledger = Edges.holding("5", text);
                String before = Check.state(ledger);
                Check.due(true, "isHashed of " + text, () -> ledger.isHashed(1));
                Check.due(true, "isHashed of 0", () -> ledger.isHashed(7));
                Check.due(before, "the state behind isHashed()", () -> Check.state(ledger));
            }
        });
    }

    private static String[] eight(String text) {
        return new String[] {text, text, text, text, text, text, text, text};
    }

    private static void shared(int words, int tokens, String... texts) {
        Releaseledger ledger = Edges.holding(texts);
        ledger.word(0, 5, '-');
        Check.due((float) words / (float) tokens, words + " words of " + tokens, ledger::wordShare);
    }

    private static void promise26WordShare() {
        Check.sentence("26: how many of the tokens are words, none to 240 of 248", () -> {
            shared(0, 8);
            shared(0, 8, eight("0000"));
            shared(8, 16, eight("1a"));
            shared(1, 9, "0", "0", "0", "0", "0", "0", "0", "0-Z");
            shared(1, 9, "0A");
            shared(240, 480, eight("1a".repeat(30)));
            shared(240, 248, eight("1a" + "-a".repeat(29)));
        });
        Check.sentence("26: divided by how many tokens there are, both converted to float", () -> {
            shared(1, 10, "1.2-a");
            shared(2, 11, "1.2-a+b");
            shared(3, 11, "1-a+b.c");
            shared(28, 36, "1" + ".a".repeat(28));
            shared(29, 37, "1" + "-a".repeat(29));
        });
    }

    private static void summed(String draft, String... slots) {
        Releaseledger ledger = Check.holding(slots);
        Check.write(ledger, draft);
        BigInteger sum = BigInteger.valueOf(23);
        sum = added(sum, draft);
        for (int slot = 0; slot < 8; slot++) {
            sum = added(sum, slot < slots.length ? slots[slot] : "0");
        }
        Check.due(sum.longValue(), "checksum() of " + draft + " and " + String.join(" ", slots), ledger::checksum);
    }

    /** Of a number without bound, which goes round only at the end. */
    private static BigInteger added(BigInteger sum, String text) {
        BigInteger more = sum.multiply(BigInteger.valueOf(31)).add(BigInteger.valueOf(text.length()));
        for (char sign : text.toCharArray()) {
            more = more.multiply(BigInteger.valueOf(31)).add(BigInteger.valueOf(sign));
        }
        return more;
    }

    private static void promise27Checksum() {
        Check.sentence("27: from 23 on, how many signs the draft has, and the code of each", () -> {
            summed("");
            summed("0");
            summed("1.2-a");
            summed(Edges.textOf(59));
            summed(FULL);
        });
        Check.sentence("27: for each slot how many signs its text has, and the code of each", () -> {
            for (int slot = 0; slot < 8; slot++) {
                String[] texts = eight("0");
                texts[slot] = "1-Z+z";
                summed("", texts);
                texts[slot] = FULL_BUILT;
                summed("9", texts);
            }
        });
    }

    private static void promise27ChecksumOfAllSigns() {
        Check.sentence("27: as a long that goes round", () -> {
            summed(FULL, eight(FULL));
            summed("", eight(FULL_BUILT));
            summed("1zzzzz-ZZZZZ+zzzzz", eight("1zzzzz-ZZZZZ+zzzzz"));
        });
        Check.sentence("27: the code of each sign that can be told", () -> {
            String signs = "0123456789abcdefghijklmnopqrstuvwxyzABCDEFGHIJKLMNOPQRSTUVWXYZ";
            for (char sign : signs.toCharArray()) {
                summed("1-" + sign, "1-a+" + sign);
            }
        });
    }

    private static void promise28IsTrue() {
        Check.sentence("28: returns whether it is: always true, and changes nothing", () -> {
            String[][] ledgers = {
                {}, eight("1"), eight("1-a"), eight("1-a+0"),
                {"1", "1.0", "0001", "1-0", "1-0.0", "1-0+0", "1-0+A", "1.0.1"},
                {"1", "1A", "1a", "1.A", "1.0.A", "1.1", "1.0.1", "1A0"},
                {FULL, FULL_EARLY, FULL_BUILT},
                {Edges.textOf(59), Edges.textOf(59, "-a"), Edges.textOf(59, "-a+Z")},
                {Edges.textOf(58), Edges.textOf(58, "-a"), Edges.textOf(58, "-a+Z")},
                {Edges.textOf(57), Edges.textOf(57, "-a"), Edges.textOf(57, "-a+Z")},
            };
            for (String[] texts : ledgers) {
                Releaseledger ledger = Edges.holding(texts);
                String before = Check.state(ledger);
                Check.due(true, "isTrue() of " + String.join(" ", texts), ledger::isTrue);
                Check.due(before, "the state behind isTrue()", () -> Check.state(ledger));
            }
            Check.due(true, "isTrue() of full ones", () -> Check.holding(eight(FULL_BUILT)).isTrue());
        });
    }
}
