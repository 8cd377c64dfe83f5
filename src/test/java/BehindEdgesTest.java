/** Promises 21 to 24, what is put behind: each sentence that names a boundary case has a test of its own. */
final class BehindEdgesTest {
    private static final int[] NO_SLOTS = {-1, 8, Integer.MIN_VALUE, Integer.MAX_VALUE};

    public static void main(String[] args) {
        promise21Zero();
        promise21ZeroRefused();
        promise22Longer();
        promise22LongerRefused();
        promise23Early();
        promise23EarlyRefused();
        promise24Built();
        promise24BuiltRefused();
        Check.end("BehindEdgesTest");
    }

    interface OnTwo {
        Object answer(Releaseledger ledger, int slot, int to);
    }

    /** The call's answer, and its text in another slot, in the next one, and in the slot itself. */
    private static void put(Object due, String text, String behind, OnTwo call) {
        for (int to : new int[] {0, 1, 2, 7}) {
            Releaseledger ledger = Edges.holding("5", text, "6");
            Check.due(due, behind + " behind " + text + " into " + to, () -> call.answer(ledger, 1, to));
            Check.due(text + behind, "what was put behind", () -> Check.told(ledger, to));
            Check.due(to == 0 ? text + behind : "5", "slot 0", () -> Check.told(ledger, 0));
            Check.due(to == 1 ? text + behind : text, "slot 1", () -> Check.told(ledger, 1));
            Check.due("7.8", "the draft", () -> Check.draft(ledger));
        }
    }

    private static void refused(Class<?> due, String text, String what, OnTwo call) {
        for (int to : new int[] {0, 1, 7}) {
            Releaseledger ledger = Edges.holding("5", text);
            Check.refused(due, ledger, what + " of " + text, () -> call.answer(ledger, 1, to));
        }
    }

    /** The exception of a slot goes first, for either, be the text full or not. */
    private static void noSlots(String what, String text, OnTwo call) {
        String[] texts = {text, Edges.textOf(60), Edges.textOf(60, "-a"), Edges.textOf(60, "-a+b")};
        for (int slot : NO_SLOTS) {
            for (String each : texts) {
                Releaseledger ledger = Edges.holding(each);
                Check.refused(Check.SLOT, ledger, what + " of " + slot, () -> call.answer(ledger, slot, 0));
                Check.refused(Check.SLOT, ledger, what + " to " + slot, () -> call.answer(ledger, 0, slot));
                Check.refused(Check.SLOT, ledger, what + " of and to " + slot, () -> call.answer(ledger, slot, slot));
            }
        }
    }

    /** From each slot and into each slot, of versions that begin with 1 to 8 and go on alike. */
    private static void eachSlot(Object due, String goesOn, String behind, OnTwo call) {
        for (int slot = 0; slot < 8; slot++) {
            for (int to = 0; to < 8; to++) {
                eachSlot(due, goesOn, behind, call, slot, to);
            }
        }
    }

    private static void eachSlot(Object due, String goesOn, String behind, OnTwo call, int slot, int to) {
        String[] texts = new String[8];
        for (int each = 0; each < 8; each++) {
            texts[each] = (each + 1) + goesOn;
        }
        Releaseledger ledger = Check.holding(texts);
        Check.due(due, behind + " behind slot " + slot + " into " + to, () -> call.answer(ledger, slot, to));
        texts[to] = (slot + 1) + goesOn + behind;
        for (int each = 0; each < 8; each++) {
            int told = each;
            Check.due(texts[each], "slot " + each, () -> Check.told(ledger, told));
        }
    }

    private static void promise21Zero() {
        Check.sentence("21: puts a version, with a point and 0 behind its text, into a slot; always true", () -> {
            for (String text : new String[] {"0", "1A", "1-0", "1-a", "1-a+0", "1-a+Z", "000999999"}) {
                put(true, text, ".0", Releaseledger::zero);
            }
        });
        Check.sentence("21: slot and to 0 to 7", () -> eachSlot(true, "-a", ".0", Releaseledger::zero));
        Check.sentence("21: a text of 60 signs can be told", () -> {
            put(true, Edges.textOf(58), ".0", Releaseledger::zero);
            put(true, Edges.textOf(58, "-a+Z"), ".0", Releaseledger::zero);
        });
    }

    private static void promise21ZeroRefused() {
        Check.sentence("21: IndexOutOfBoundsException, first, if there is no such slot, for either",
                () -> noSlots("zero", "1", Releaseledger::zero));
        Check.sentence("21: IllegalStateException if the text would have more than 60 signs", () -> {
            refused(Check.STATE, Edges.textOf(59), "zero", Releaseledger::zero);
            refused(Check.STATE, Edges.textOf(60), "zero", Releaseledger::zero);
            refused(Check.STATE, Edges.textOf(59, "-a"), "zero", Releaseledger::zero);
            refused(Check.STATE, Edges.textOf(60, "-a+Z"), "zero", Releaseledger::zero);
        });
    }

    private static OnTwo longer(int number) {
        return (ledger, slot, to) -> ledger.longer(slot, number, to);
    }

    private static void promise22Longer() {
        Check.sentence("22: puts a version, with a point and a number behind its text; always true", () -> {
            for (String text : new String[] {"0", "1A", "1-0", "1-a", "1-a+0", "1-a+Z", "000999999"}) {
                for (int number : new int[] {1, 9, 10, 99, 100, 999}) {
                    put(true, text, "." + number, longer(number));
                }
            }
        });
        Check.sentence("22: slot and to 0 to 7", () -> eachSlot(true, "-a", ".1", longer(1)));
        Check.sentence("22: number 1 to 999", () -> Edges.range(Check.ARGUMENT, 1, 999, "longer",
                () -> Edges.holding("1"), (ledger, it) -> ledger.longer(0, it, 1)));
        Check.sentence("22: a text of 60 signs can be told", () -> {
            put(true, Edges.textOf(58), ".9", longer(9));
            put(true, Edges.textOf(57), ".10", longer(10));
            put(true, Edges.textOf(57, "-a"), ".99", longer(99));
            put(true, Edges.textOf(56), ".100", longer(100));
            put(true, Edges.textOf(56, "-a+Z"), ".999", longer(999));
        });
    }

    private static void promise22LongerRefused() {
        Check.sentence("22: IndexOutOfBoundsException, first, if there is no such slot, for either", () -> {
            noSlots("longer by 1", "1", longer(1));
            noSlots("longer by 0", "1", longer(0));
            noSlots("longer by 1000", "1", longer(1000));
        });
        Check.sentence("22: IllegalArgumentException, next, if the number is out of range", () -> {
            for (int number : new int[] {0, -1, 1000, Integer.MIN_VALUE, Integer.MAX_VALUE}) {
                refused(Check.ARGUMENT, "1", "longer by " + number, longer(number));
                refused(Check.ARGUMENT, Edges.textOf(60), "longer by " + number, longer(number));
            }
        });
        Check.sentence("22: IllegalStateException if the text would have more than 60 signs", () -> {
            refused(Check.STATE, Edges.textOf(59), "longer by 1", longer(1));
            refused(Check.STATE, Edges.textOf(60), "longer by 1", longer(1));
            refused(Check.STATE, Edges.textOf(58), "longer by 10", longer(10));
            refused(Check.STATE, Edges.textOf(58), "longer by 99", longer(99));
            refused(Check.STATE, Edges.textOf(57), "longer by 100", longer(100));
            refused(Check.STATE, Edges.textOf(57, "-a+Z"), "longer by 999", longer(999));
        });
    }

    private static OnTwo early(char letter) {
        return (ledger, slot, to) -> ledger.early(slot, letter, to);
    }

    private static void promise23Early() {
        Check.sentence("23: puts a version that has no early row, with a dash and a letter behind; always true", () -> {
            for (String text : new String[] {"0", "1A", "1.0", "1a0", "000999999"}) {
                put(true, text, "-a", early('a'));
                put(true, text, "-z", early('z'));
            }
        });
        Check.sentence("23: slot and to 0 to 7", () -> eachSlot(true, "", "-z", early('z')));
        Check.sentence("23: letter a to z", () -> {
            Edges.signs(Check.ARGUMENT, "abcdefghijklmnopqrstuvwxyz", "early", () -> Edges.holding("1"),
                    (ledger, it) -> ledger.early(0, it, 1));
            for (char letter = 'a'; letter <= 'z'; letter++) {
                put(true, "1", "-" + letter, early(letter));
            }
        });
        Check.sentence("23: a text of 60 signs can be told", () -> {
            put(true, Edges.textOf(58), "-a", early('a'));
            put(true, Edges.textOf(58, "Z"), "-z", early('z'));
        });
    }

    private static void promise23EarlyRefused() {
        Check.sentence("23: IndexOutOfBoundsException, first, if there is no such slot, for either", () -> {
            noSlots("early a", "1", early('a'));
            noSlots("early A", "1", early('A'));
            noSlots("early a of an early one", "1-a", early('a'));
        });
        Check.sentence("23: IllegalArgumentException, next, if there is no such letter", () -> {
            for (char letter : new char[] {'a' - 1, 'z' + 1, 'A', 'Z', 0, 'a' + 256, 65535}) {
                refused(Check.ARGUMENT, "1", "early " + (int) letter, early(letter));
                refused(Check.ARGUMENT, "1-a", "early " + (int) letter, early(letter));
                refused(Check.ARGUMENT, Edges.textOf(60), "early " + (int) letter, early(letter));
            }
        });
        Check.sentence("23: IllegalStateException if it has an early row", () -> {
            for (String text : new String[] {"1-0", "1-a", "1-a+0", "0-0.0", Edges.textOf(60, "-a")}) {
                refused(Check.STATE, text, "early", early('a'));
            }
        });
        Check.sentence("23: IllegalStateException if the text would have more than 60 signs", () -> {
            refused(Check.STATE, Edges.textOf(59), "early", early('a'));
            refused(Check.STATE, Edges.textOf(60), "early", early('z'));
        });
    }

    private static OnTwo built(int number) {
        return (ledger, slot, to) -> ledger.built(slot, number, to);
    }

    private static void promise24Built() {
        Check.sentence("24: puts a version that has an early row, but no build row, with a plus and a number; 0 for the"
                + " number 0, otherwise 1", () -> {
            for (String text : new String[] {"0-0", "1-a", "1A-a0", "1-a-b.c", "000999999-Z"}) {
                put(0, text, "+0", built(0));
                for (int number : new int[] {1, 9, 10, 99, 100, 999}) {
                    put(1, text, "+" + number, built(number));
                }
            }
        });
        Check.sentence("24: slot and to 0 to 7", () -> eachSlot(1, "-a", "+5", built(5)));
        Check.sentence("24: number 0 to 999", () -> Edges.range(Check.ARGUMENT, 0, 999, "built",
                () -> Edges.holding("1-a"), (ledger, it) -> ledger.built(0, it, 1)));
        Check.sentence("24: a text of 60 signs can be told", () -> {
            put(0, Edges.textOf(58, "-a"), "+0", built(0));
            put(1, Edges.textOf(58, "-a"), "+9", built(9));
            put(1, Edges.textOf(57, "-a"), "+10", built(10));
            put(1, Edges.textOf(57, "-a"), "+99", built(99));
            put(1, Edges.textOf(56, "-a"), "+100", built(100));
            put(1, Edges.textOf(56, "-a"), "+999", built(999));
        });
    }

    private static void promise24BuiltRefused() {
        Check.sentence("24: IndexOutOfBoundsException, first, if there is no such slot, for either", () -> {
            noSlots("built 0", "1-a", built(0));
            noSlots("built -1", "1-a", built(-1));
            noSlots("built 1000 of one without an early row", "1", built(1000));
        });
        Check.sentence("24: IllegalArgumentException, next, if the number is out of range", () -> {
            for (int number : new int[] {-1, 1000, Integer.MIN_VALUE, Integer.MAX_VALUE}) {
                for (String text : new String[] {"1-a", "1", "1-a+0", Edges.textOf(60, "-a")}) {
                    refused(Check.ARGUMENT, text, "built " + number, built(number));
                }
            }
        });
        Check.sentence("24: IllegalStateException if it has no early row", () -> {
            for (String text : new String[] {"0", "1A", Edges.textOf(58), Edges.textOf(60)}) {
                refused(Check.STATE, text, "built", built(0));
            }
        });
        Check.sentence("24: IllegalStateException if it has a build row", () -> {
            for (String text : new String[] {"1-a+0", "1-a+b", "0-0+0.0", Edges.textOf(60, "-a+b")}) {
                refused(Check.STATE, text, "built", built(0));
            }
        });
        Check.sentence("24: IllegalStateException if the text would have more than 60 signs", () -> {
            refused(Check.STATE, Edges.textOf(59, "-a"), "built by 0", built(0));
            refused(Check.STATE, Edges.textOf(60, "-a"), "built by 1", built(1));
            refused(Check.STATE, Edges.textOf(58, "-a"), "built by 10", built(10));
            refused(Check.STATE, Edges.textOf(58, "-a"), "built by 99", built(99));
            refused(Check.STATE, Edges.textOf(57, "-a"), "built by 100", built(100));
            refused(Check.STATE, Edges.textOf(57, "-a"), "built by 999", built(999));
        });
    }
}
