/** Promises 14 to 20: order. */
final class OrderTest {
    /** From the least to the greatest; the texts of one row are the same as compared. */
    private static final String[][] RISING = {
        {"0-0", "00-000.0", "0.0-0+0"},
        {"0-a"},
        {"0", "0000", "0.0", "0.000.0.00"},
        {"0.0a", "0.0.a"},
        {"0.1"},
        {"0a", "0.a.0"},
        {"1-0", "1-00-0"},
        {"1-0+1"},
        {"1-2"},
        {"1-2.1"},
        {"1-2a", "1-2-a", "1-2.a.0"},
        {"1-10"},
        {"1-A"},
        {"1-AA"},
        {"1-Z"},
        {"1-a", "1-a0", "01.0-a.00", "1-a+0", "1-a-0+0-0.0+00"},
        {"1-a+1", "1-a+01.0"},
        {"1-a+1.1"},
        {"1-a+1a"},
        {"1-a+9"},
        {"1-a+10"},
        {"1-a+A"},
        {"1-a+a"},
        {"1-a+a1"},
        {"1-a+aA"},
        {"1-a+aa"},
        {"1-a.0.1"},
        {"1-a.1"},
        {"1-aA"},
        {"1-aZ"},
        {"1-aa"},
        {"1-aaaaZ"},
        {"1-aaaaa"},
        {"1-ab"},
        {"1-b"},
        {"1", "001", "1.0.0"},
        {"1.0.1-z"},
        {"1.0.1"},
        {"1.0.10"},
        {"1.2-a"},
        {"1.2"},
        {"1.10"},
        {"1.999999999"},
        {"1A-z"},
        {"1A", "1.A", "1A0"},
        {"1A1"},
        {"1.A.A"},
        {"1a"},
        {"1.a.1"},
        {"2"},
        {"10"},
        {"999999"},
    };

    public static void main(String[] args) {
        promises14To16EachByEach();
        promise16Apart();
        promises14To16Refused();
        promise17Rank();
        promise18At();
        promise19Sort();
        promise19SortMoved();
        promise20Between();
        Check.end("OrderTest");
    }

    private static void promises14To16EachByEach() {
        for (int one = 0; one < RISING.length; one++) {
            for (int other = 0; other < RISING.length; other++) {
                for (String text : RISING[one]) {
                    for (String otherText : RISING[other]) {
                        compared(text, otherText, Integer.compare(one, other));
                    }
                }
            }
        }
    }

    private static void compared(String text, String otherText, int order) {
        Releaseledger ledger = Check.holding("5", text, otherText);
        Check.due(order, "compare " + text + " " + otherText, () -> ledger.compare(1, 2));
        Check.due(-order, "compare " + otherText + " " + text, () -> ledger.compare(2, 1));
        Check.due(order == 0, "isSame " + text + " " + otherText, () -> ledger.isSame(1, 2));
        Check.due(0, "compare with itself " + text, () -> ledger.compare(1, 1));
        Check.due(true, "isSame with itself " + text, () -> ledger.isSame(1, 1));
        Check.due(-1, "apart from itself " + text, () -> ledger.apart(1, 1));
        Check.due(order == 0, "apart is -1 of same ones " + text + " " + otherText, () -> ledger.apart(1, 2) == -1);
    }

    private static void promise16Apart() {
        apart(0, "1", "2");
        apart(0, "1", "1.0.1");
        apart(0, "1-a", "2-b+c");
        apart(0, "1-a+b", "1.0.a");
        apart(0, "1a", "1.2-z");
        apart(1, "1", "1-0");
        apart(1, "1.0", "1-a+b");
        apart(1, "1-a", "1.0-b");
        apart(1, "1-a+b", "1-a1+b");
        apart(1, "1-0+b", "1-1+a");
        apart(1, "1-A", "1-a");
        apart(2, "1-a", "1-a+1");
        apart(2, "1-a", "1-a+0.a");
        apart(2, "1-a.0+1", "1.0-a+b");
        apart(2, "1-a+b", "1-a+b-1");
        apart(-1, "1-a", "1.0-a.0+0");
        apart(-1, "1.0", "01");
        apart(-1, "1-a+b", "1-a+b+0");
    }

    private static void apart(int row, String text, String otherText) {
        Releaseledger ledger = Check.holding("5", text, otherText);
        Check.due(row, "apart " + text + " " + otherText, () -> ledger.apart(1, 2));
        Check.due(row, "apart " + otherText + " " + text, () -> ledger.apart(2, 1));
    }

    private static void promises14To16Refused() {
        Releaseledger ledger = Check.holding("1", "2");
        for (int slot : VersionsTest.WRONG_SLOTS) {
            Check.refused(Check.SLOT, ledger, "compare(" + slot + ", 0)", () -> ledger.compare(slot, 0));
            Check.refused(Check.SLOT, ledger, "compare(0, " + slot + ")", () -> ledger.compare(0, slot));
            Check.refused(Check.SLOT, ledger, "isSame(" + slot + ", 0)", () -> ledger.isSame(slot, 0));
            Check.refused(Check.SLOT, ledger, "isSame(0, " + slot + ")", () -> ledger.isSame(0, slot));
            Check.refused(Check.SLOT, ledger, "apart(" + slot + ", 0)", () -> ledger.apart(slot, 0));
            Check.refused(Check.SLOT, ledger, "apart(0, " + slot + ")", () -> ledger.apart(0, slot));
        }
    }

    private static final String[] MIXED = {"2", "1-a", "1", "1.0", "2-b", "1-a+0", "9", "1-a.0"};

    private static void promise17Rank() {
        Releaseledger ledger = Check.holding(MIXED);
        int[] ranks = {6, 0, 3, 3, 5, 0, 7, 0};
        for (int slot = 0; slot < 8; slot++) {
            int each = slot;
            Check.due(ranks[slot], "rank(" + slot + ")", () -> ledger.rank(each));
            Check.due(0, "rank of a new slot", () -> new Releaseledger().rank(each));
        }
        for (int slot : VersionsTest.WRONG_SLOTS) {
            Check.refused(Check.SLOT, ledger, "rank(" + slot + ")", () -> ledger.rank(slot));
        }
    }

    private static void promise18At() {
        Releaseledger ledger = Check.holding(MIXED);
        String before = Check.state(ledger);
        int[] slots = {1, 5, 7, 2, 3, 4, 0, 6};
        for (int place = 0; place < 8; place++) {
            int each = place;
            Check.due(slots[place], "at(" + place + ")", () -> ledger.at(each));
            Check.due(place, "at(" + place + ") of new slots", () -> new Releaseledger().at(each));
        }
        Check.due(before, "the state behind at()", () -> Check.state(ledger));
        for (int place : VersionsTest.WRONG_SLOTS) {
            Check.refused(Check.SLOT, ledger, "at(" + place + ")", () -> ledger.at(place));
        }
    }

    private static void promise19Sort() {
        Releaseledger ledger = Check.holding(MIXED);
        ledger.begin(3, 0);
        Check.due(8, "sort()", ledger::sort);
        String[] sorted = {"1-a", "1-a+0", "1-a.0", "1", "1.0", "2-b", "2", "9"};
        for (int slot = 0; slot < 8; slot++) {
            int each = slot;
            Check.due(sorted[slot], "sorted slot " + slot, () -> Check.told(ledger, each));
            Check.due(slot, "at(" + slot + ") behind sort()", () -> ledger.at(each));
        }
        Check.due("3", "the draft behind sort()", () -> Check.draft(ledger));
        Check.due(0, "sort() again", ledger::sort);
        ledger.parse(0);
        Check.due("3", "a slot that was sorted and parsed into", () -> Check.told(ledger, 0));
        Check.due("1-a+0", "the slot behind it", () -> Check.told(ledger, 1));
        Check.due(7, "sort() when the first one goes behind all but one", ledger::sort);
    }

    private static void promise19SortMoved() {
        Check.due(0, "sort() of new slots", () -> new Releaseledger().sort());
        Check.due(2, "sort() of two that change places",
                () -> Check.holding("1", "2", "4", "3", "5", "6", "7", "8").sort());
        Check.due(8, "sort() of falling ones", () -> Check.holding("8", "7", "6", "5", "4", "3", "2", "1").sort());
        Check.due(8, "sort() when the last one goes first",
                () -> Check.holding("2", "3", "4", "5", "6", "7", "8", "1").sort());
        Check.due(0, "sort() of same ones with other texts",
                () -> Check.holding("1", "1.0", "01", "1.0.0", "001", "1.00", "1", "0001").sort());
    }

    private static void promise20Between() {
        Releaseledger ledger = Check.holding(MIXED);
        int[] ranks = {6, 0, 3, 3, 5, 0, 7, 0};
        for (int low = 0; low < 8; low++) {
            for (int high = 0; high < 8; high++) {
                int from = low;
                int to = high;
                Check.due(Math.max(0, ranks[high] - ranks[low]), "between(" + low + ", " + high + ")",
                        () -> ledger.between(from, to));
            }
        }
        for (int slot : VersionsTest.WRONG_SLOTS) {
            Check.refused(Check.SLOT, ledger, "between(" + slot + ", 0)", () -> ledger.between(slot, 0));
            Check.refused(Check.SLOT, ledger, "between(0, " + slot + ")", () -> ledger.between(0, slot));
        }
    }
}
