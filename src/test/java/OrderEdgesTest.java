/** Promises 14 to 20, order: each sentence that names a boundary case has a test of its own. */
final class OrderEdgesTest {
    private static final String[] RISING = {"0-0", "0", "1-a", "1-a+1", "1", "1.1", "1A", "999999"};
    private static final String[] FALLING = {"999999", "1A", "1.1", "1", "1-a+1", "1-a", "0", "0-0"};
    private static final String[] ALIKE = {"1", "1.0", "01", "1.00", "001.0", "0001", "1.0.0", "1"};
    private static final String[] MIXED = {"2", "1-a", "1", "1.0", "2-b", "1-a+0", "9", "1-a.0"};
    private static final int[] MIXED_RANKS = {6, 0, 3, 3, 5, 0, 7, 0};

    interface OnTwo {
        Object answer(Releaseledger ledger, int one, int other);
    }

    public static void main(String[] args) {
        promise14Compare();
        promise15IsSame();
        promise16Apart();
        promise17Rank();
        promise18At();
        promise19Sort();
        promise19SortAlike();
        promise20Between();
        Check.end("OrderEdgesTest");
    }

    /** The sentences of two slots, and that of what is thrown if there is no such slot, for either. */
    private static void twoSlots(String call, String one, String other, OnTwo answer) {
        Check.sentence(call + ": " + one + " 0 to 7", () -> Edges.slots(call, () -> Edges.holding(MIXED),
                (ledger, it) -> answer.answer(ledger, it, 1)));
        Check.sentence(call + ": " + other + " 0 to 7", () -> Edges.slots(call, () -> Edges.holding(MIXED),
                (ledger, it) -> answer.answer(ledger, 1, it)));
        Check.sentence(call + ": IndexOutOfBoundsException if there is no such slot, for either", () -> {
            for (int slot : new int[] {-1, 8, Integer.MIN_VALUE, Integer.MAX_VALUE}) {
                Releaseledger ledger = Edges.holding(MIXED);
                Check.refused(Check.SLOT, ledger, call + " " + slot + " 0", () -> answer.answer(ledger, slot, 0));
                Check.refused(Check.SLOT, ledger, call + " 0 " + slot, () -> answer.answer(ledger, 0, slot));
                Check.refused(Check.SLOT, ledger, call + " 7 " + slot, () -> answer.answer(ledger, 7, slot));
                Check.refused(Check.SLOT, ledger, call + " of both " + slot, () -> answer.answer(ledger, slot, slot));
            }
        });
    }

    private static void compared(String one, String other, int order) {
        Releaseledger ledger = Check.holding("5", one, other);
        Check.due(order, "compare " + one + " " + other, () -> ledger.compare(1, 2));
        Check.due(-order, "compare " + other + " " + one, () -> ledger.compare(2, 1));
        Check.due(order == 0, "isSame " + one + " " + other, () -> ledger.isSame(1, 2));
        Check.due(order == 0, "isSame " + other + " " + one, () -> ledger.isSame(2, 1));
    }

    private static void promise14Compare() {
        twoSlots("14, compare", "slot", "other", Releaseledger::compare);
        Check.sentence("14: returns -1 if it is below 0, 1 if it is above 0", () -> {
            compared("0", "999999.999999999", -1);
            compared("1", "1.0.0.0.0.1", -1);
            compared("1A", "1z", -1);
            compared("1-0", "1", -1);
            compared("1-a", "1-a+0.1", -1);
            compared("0-0", Edges.textOf(60), -1);
        });
        Check.sentence("14: otherwise 0", () -> {
            compared("0", "0000.0", 0);
            compared("1-a0", "1.0-a+0", 0);
            compared(Edges.textOf(60), Edges.textOf(60), 0);
            for (int slot = 0; slot < 8; slot++) {
                int each = slot;
                Releaseledger ledger = Check.holding(MIXED);
                Check.due(0, "compare with itself", () -> ledger.compare(each, each));
            }
        });
    }

    private static void promise15IsSame() {
        twoSlots("15, isSame", "slot", "other", Releaseledger::isSame);
        Check.sentence("15: returns whether they are the same by equals()", () -> {
            compared("1", "1.0001", -1);
            compared("1", "1.0000", 0);
            compared(Edges.textOf(59), Edges.textOf(59) + "1", -1);
            compared(Edges.textOf(58), Edges.textOf(58) + ".0", 0);
            for (int slot = 0; slot < 8; slot++) {
                int each = slot;
                Releaseledger ledger = Check.holding(MIXED);
                Check.due(true, "isSame with itself", () -> ledger.isSame(each, each));
            }
        });
    }

    private static void apart(int row, String... pairs) {
        for (int pair = 0; pair + 1 < pairs.length; pair += 2) {
            Releaseledger ledger = Check.holding("5", pairs[pair], pairs[pair + 1]);
            String what = "apart " + pairs[pair] + " " + pairs[pair + 1];
            Check.due(row, what, () -> ledger.apart(1, 2));
            Check.due(row, what + " turned about", () -> ledger.apart(2, 1));
        }
    }

    private static void promise16Apart() {
        twoSlots("16, apart", "slot", "other", Releaseledger::apart);
        Check.sentence("16: returns the first row, 0 to 2, that tells which one is ahead", () -> {
            apart(0, "0", "1", "1", "1.0.1", "1-a", "2", "1-a+b", "2-b+c", "1A", "1");
            apart(1, "1-0", "1-1", "1-a", "1.0-a.1", "1-a+b", "1-b+a", "1-a+b", "1-A");
            apart(2, "1-a", "1-a+1", "1-a", "1.0-a.0+0.1", "1-0+0", "1-0+A", "1-a+b", "1-a+b.1");
        });
        Check.sentence("16: 1 also if just one of them has an early row", () -> {
            apart(1, "1", "1-0", "1.0", "1-0.0", "1", "1-0+9", "0", "0-z");
            apart(0, "1", "2-0", "1.1", "1-0");
        });
        Check.sentence("16: -1 if they are the same", () -> {
            apart(-1, "1", "1", "1", "0001.0000", "1-0", "1-0.0", "1-a", "1-a+0", "1-a+b0", "1.0-a.0+b");
            Check.due(-1, "apart from itself", () -> Check.holding(MIXED).apart(7, 7));
        });
    }

    private static void promise17Rank() {
        Check.sentence("17: slot 0 to 7, with IndexOutOfBoundsException otherwise", () -> Edges.slots("rank",
                () -> Edges.holding(MIXED), Releaseledger::rank));
        Check.sentence("17: returns how many slots have a version less, none to 7", () -> {
            for (int slot = 0; slot < 8; slot++) {
                int each = slot;
                Check.due(slot, "rank of rising ones", () -> Check.holding(RISING).rank(each));
                Check.due(7 - slot, "rank of falling ones", () -> Check.holding(FALLING).rank(each));
                Check.due(0, "rank of alike ones", () -> Check.holding(ALIKE).rank(each));
                Check.due(MIXED_RANKS[slot], "rank of mixed ones", () -> Check.holding(MIXED).rank(each));
            }
        });
    }

    private static void promise18At() {
        Check.sentence("18: place 0 to 7, with IndexOutOfBoundsException otherwise", () -> Edges.slots("at",
                () -> Edges.holding(MIXED), Releaseledger::at));
        Check.sentence("18: the least one first", () -> {
            for (int place = 0; place < 8; place++) {
                int each = place;
                Check.due(place, "at() of rising ones", () -> Check.holding(RISING).at(each));
                Check.due(7 - place, "at() of falling ones", () -> Check.holding(FALLING).at(each));
            }
        });
        Check.sentence("18: of same ones the lower slot first", () -> {
            int[] mixed = {1, 5, 7, 2, 3, 4, 0, 6};
            for (int place = 0; place < 8; place++) {
                int each = place;
                Check.due(place, "at() of alike ones", () -> Check.holding(ALIKE).at(each));
                Check.due(mixed[place], "at() of mixed ones", () -> Check.holding(MIXED).at(each));
            }
        });
    }

    private static void sorted(int moved, String[] texts, String[] due) {
        Releaseledger ledger = Edges.holding(texts);
        Check.due(moved, "sort()", ledger::sort);
        for (int slot = 0; slot < 8; slot++) {
            int each = slot;
            Check.due(due[slot], "sorted slot " + slot, () -> Check.told(ledger, each));
        }
        Check.due("7.8", "the draft behind sort()", () -> Check.draft(ledger));
        Check.due(0, "sort() again", ledger::sort);
    }

    private static void promise19Sort() {
        Check.sentence("19: sorts the versions into the slots, the least one into slot 0", () -> {
            sorted(8, FALLING, RISING);
            sorted(8, new String[] {"8", "1", "2", "3", "4", "5", "6", "7"},
                    new String[] {"1", "2", "3", "4", "5", "6", "7", "8"});
            sorted(8, new String[] {"2", "3", "4", "5", "6", "7", "8", "1"},
                    new String[] {"1", "2", "3", "4", "5", "6", "7", "8"});
        });
        Check.sentence("19: returns how many versions are in another slot then, none to 8", () -> {
            sorted(0, RISING, RISING);
            sorted(2, new String[] {"1", "2", "3", "4", "5", "6", "8", "7"},
                    new String[] {"1", "2", "3", "4", "5", "6", "7", "8"});
            sorted(2, new String[] {"8", "2", "3", "4", "5", "6", "7", "1"},
                    new String[] {"1", "2", "3", "4", "5", "6", "7", "8"});
            Check.due(0, "sort() of a new one", () -> new Releaseledger().sort());
        });
    }

    private static void promise19SortAlike() {
        Check.sentence("19: same ones in the order in which they stood", () -> {
            sorted(0, ALIKE, ALIKE);
            sorted(8, MIXED, new String[] {"1-a", "1-a+0", "1-a.0", "1", "1.0", "2-b", "2", "9"});
            sorted(8, new String[] {"2", "02", "002", "0002", "1", "01", "001", "0001"},
                    new String[] {"1", "01", "001", "0001", "2", "02", "002", "0002"});
            sorted(7, new String[] {"1", "2", "1.0", "1.00", "01", "001", "0001", "1.0.0"},
                    new String[] {"1", "1.0", "1.00", "01", "001", "0001", "1.0.0", "2"});
        });
    }

    private static void promise20Between() {
        twoSlots("20, between", "low", "high", Releaseledger::between);
        Check.sentence("20: not less than one version, and less than another one", () -> {
            for (int pair = 0; pair < 64; pair++) {
                int low = pair / 8;
                int high = pair % 8;
                Check.due(Math.max(0, MIXED_RANKS[high] - MIXED_RANKS[low]), "between " + low + " and " + high,
                        () -> Check.holding(MIXED).between(low, high));
            }
        });
        Check.sentence("20: returns how many, none to 7", () -> {
            Check.due(7, "from the least to the greatest", () -> Check.holding(RISING).between(0, 7));
            Check.due(0, "from the greatest to the least", () -> Check.holding(RISING).between(7, 0));
            Check.due(1, "to the next one", () -> Check.holding(RISING).between(3, 4));
            for (int slot = 0; slot < 8; slot++) {
                int each = slot;
                Check.due(0, "from one to itself", () -> Check.holding(RISING).between(each, each));
                Check.due(0, "of alike ones", () -> Check.holding(ALIKE).between(each, 7 - each));
            }
        });
    }
}
