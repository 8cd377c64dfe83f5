/** Promises 1 to 6, the draft: each sentence that names a boundary case has a test of its own. */
final class DraftEdgesTest {
    private static final String FULL = Edges.textOf(60);

    public static void main(String[] args) {
        promise1NewObject();
        promise2Begin();
        promise2BeginRefused();
        promise3Add();
        promise3AddRefused();
        promise3AddWithoutRoom();
        promise4Word();
        promise4WordLetters();
        promise4WordRefused();
        promise4WordWithoutRoom();
        promise5Drop();
        promise6Sign();
        Check.end("DraftEdgesTest");
    }

    private static void promise1NewObject() {
        Check.sentence("1: the version 0 in all slots", () -> {
            for (int slot = 0; slot < 8; slot++) {
                int each = slot;
                Check.due("0", "new slot " + slot, () -> Check.told(new Releaseledger(), each));
            }
        });
        Check.sentence("1: an empty draft", () -> {
            Releaseledger ledger = new Releaseledger();
            Check.refused(Check.SLOT, ledger, "sign(0) of a new one", () -> ledger.sign(0));
            Check.due(0, "drop() of a new one", ledger::drop);
        });
    }

    private static void begun(String before, int number, int zeros, String due) {
        Releaseledger ledger = Edges.drafting(before);
        Check.due(due.length(), "begin(" + number + ", " + zeros + ") behind " + before,
                () -> ledger.begin(number, zeros));
        Check.due(due, "the draft begun", () -> Check.draft(ledger));
    }

    private static void promise2Begin() {
        Check.sentence("2: begins the draft anew, be it empty or full", () -> {
            begun("", 5, 0, "5");
            begun("1", 5, 0, "5");
            begun(FULL, 5, 0, "5");
            begun(FULL, 999999, 3, "000999999");
        });
        Check.sentence("2: number 0 to 999999", () -> {
            Edges.range(Check.ARGUMENT, 0, 999999, "begin", Releaseledger::new, (ledger, it) -> ledger.begin(it, 0));
            begun("1-a", 0, 0, "0");
            begun("1-a", 999999, 0, "999999");
        });
        Check.sentence("2: zeros 0 to 3", () -> {
            Edges.range(Check.ARGUMENT, 0, 3, "zeros of begin", Releaseledger::new,
                    (ledger, it) -> ledger.begin(1, it));
            begun("", 0, 3, "0000");
            begun("", 1, 1, "01");
            begun("", 1, 2, "001");
        });
        Check.sentence("2: returns how many signs the draft has then, 1 to 9", () -> {
            int number = 1;
            for (int digits = 1; digits <= 6; digits++) {
                begun("", number, 0, Integer.toString(number));
                begun("", 10 * number - 1, 3, "000" + (10 * number - 1));
                number *= 10;
            }
        });
    }

    private static void promise2BeginRefused() {
        Check.sentence("2: IllegalArgumentException if the number or the zeros are out of range", () -> {
            for (String draft : new String[] {"", "1", FULL}) {
                Releaseledger ledger = Edges.drafting(draft);
                Check.refused(Check.ARGUMENT, ledger, "begin(-1, 0)", () -> ledger.begin(-1, 0));
                Check.refused(Check.ARGUMENT, ledger, "begin(1000000, 0)", () -> ledger.begin(1000000, 0));
                Check.refused(Check.ARGUMENT, ledger, "begin(0, -1)", () -> ledger.begin(0, -1));
                Check.refused(Check.ARGUMENT, ledger, "begin(0, 4)", () -> ledger.begin(0, 4));
                Check.refused(Check.ARGUMENT, ledger, "begin(-1, -1)", () -> ledger.begin(-1, -1));
                Check.refused(Check.ARGUMENT, ledger, "begin(1000000, 4)", () -> ledger.begin(1000000, 4));
                Check.due(draft, "the draft", () -> Check.draft(ledger));
            }
        });
    }

    private static void added(String draft, int number, int zeros, char how) {
        Releaseledger ledger = Edges.drafting(draft);
        String due = Edges.joined(draft, how, "0".repeat(zeros) + number);
        Check.due(due.length(), draft + " add(" + number + ", " + zeros + ", " + how + ")",
                () -> ledger.add(number, zeros, how));
        Check.due(due, "the draft added to", () -> Check.draft(ledger));
    }

    private static void addRefused(Class<?> due, String draft, int number, int zeros, char how) {
        Releaseledger ledger = Edges.drafting(draft);
        Check.refused(due, ledger, draft + " add(" + number + ", " + zeros + ", " + how + ")",
                () -> ledger.add(number, zeros, how));
    }

    private static void promise3Add() {
        Check.sentence("3: number 0 to 999999999", () -> {
            Edges.range(Check.ARGUMENT, 0, 999999999, "add", () -> Edges.drafting("1"),
                    (ledger, it) -> ledger.add(it, 0, '.'));
            added("1", 0, 0, '.');
            added("1", 999999999, 0, '.');
        });
        Check.sentence("3: zeros 0 to 3", () -> {
            Edges.range(Check.ARGUMENT, 0, 3, "zeros of add", () -> Edges.drafting("1"),
                    (ledger, it) -> ledger.add(1, it, '.'));
            added("1", 0, 1, '.');
            added("1", 0, 3, '.');
            added("1", 999999999, 3, '.');
        });
        Check.sentence("3: how it is joined: n with nothing between, '.', '-' or '+'", () -> {
            Edges.signs(Check.ARGUMENT, "n.-+", "add", () -> Edges.drafting("1-a"),
                    (ledger, it) -> ledger.add(1, 0, it));
            for (char how : Edges.WAYS) {
                added("1-a", 20, 1, how);
            }
        });
        Check.sentence("3: returns how many signs the draft has then, 3 to 60", () -> {
            added("1a", 0, 0, 'n');
            int number = 1;
            for (int digits = 1; digits <= 9; digits++) {
                added("1", number, 0, '.');
                added("1", (int) (10L * number - 1), 0, '-');
                number *= 10;
            }
            added(Edges.textOf(58), 0, 0, '.');
        });
    }

    private static void promise3AddRefused() {
        Check.sentence("3: IllegalArgumentException, first, if the number or the zeros are out of range,"
                + " or there is no such way", () -> {
            for (String draft : new String[] {"", "1", FULL}) {
                addRefused(Check.ARGUMENT, draft, -1, 0, '.');
                addRefused(Check.ARGUMENT, draft, 1000000000, 0, '.');
                addRefused(Check.ARGUMENT, draft, 1, -1, 'n');
                addRefused(Check.ARGUMENT, draft, 1, 4, '+');
                addRefused(Check.ARGUMENT, draft, 1, 0, 'N');
                addRefused(Check.ARGUMENT, draft, -1, 4, 'N');
            }
        });
        Check.sentence("3: IllegalStateException if the draft is empty", () -> {
            for (char how : Edges.WAYS) {
                addRefused(Check.STATE, "", 0, 0, how);
            }
        });
        Check.sentence("3: IllegalStateException if the token cannot be joined so here", () -> {
            addRefused(Check.STATE, "1", 0, 0, 'n');
            addRefused(Check.STATE, "1.0", 0, 0, 'n');
            addRefused(Check.STATE, "1a9", 0, 0, 'n');
            addRefused(Check.STATE, "1-0", 0, 0, 'n');
            addRefused(Check.STATE, "1-a+9", 0, 0, 'n');
            addRefused(Check.STATE, "1", 0, 0, '+');
            addRefused(Check.STATE, "1.2a", 0, 0, '+');
        });
    }

    private static void promise3AddWithoutRoom() {
        Check.sentence("3: IllegalStateException if the draft would have more than 60 signs", () -> {
            added(Edges.textOf(50), 123456789, 0, '.');
            addRefused(Check.STATE, Edges.textOf(51), 123456789, 0, '.');
            addRefused(Check.STATE, Edges.textOf(50), 123456789, 1, '-');
            added(Edges.textOf(48, "a"), 123456789, 3, 'n');
            addRefused(Check.STATE, Edges.textOf(49, "a"), 123456789, 3, 'n');
            added(Edges.textOf(59, "a"), 0, 0, 'n');
            addRefused(Check.STATE, Edges.textOf(60, "a"), 0, 0, 'n');
            added(Edges.textOf(58, "-a"), 0, 0, '+');
            addRefused(Check.STATE, Edges.textOf(59, "-a"), 0, 0, '+');
            addRefused(Check.STATE, Edges.textOf(59), 0, 0, '.');
            addRefused(Check.STATE, FULL, 0, 0, '-');
        });
    }

    private static void worded(String draft, int code, char how, String word) {
        Releaseledger ledger = Edges.drafting(draft);
        String due = Edges.joined(draft, how, word);
        Check.due(due.length(), draft + " word(" + code + ", " + word.length() + ", " + how + ")",
                () -> ledger.word(code, word.length(), how));
        Check.due(due, "the draft worded", () -> Check.draft(ledger));
    }

    private static void wordRefused(Class<?> due, String draft, int letters, char how) {
        Releaseledger ledger = Edges.drafting(draft);
        Check.refused(due, ledger, draft + " word(0, " + letters + ", " + how + ")",
                () -> ledger.word(0, letters, how));
    }

    private static void promise4Word() {
        Check.sentence("4: code: any number", () -> {
            for (int code : new int[] {Integer.MIN_VALUE, -1, 0, 1, Integer.MAX_VALUE}) {
                Releaseledger ledger = Edges.drafting("1");
                Check.due(6, "word(" + code + ", 5, n)", () -> ledger.word(code, 5, 'n'));
            }
        });
        Check.sentence("4: letters 1 to 5", () -> {
            Edges.range(Check.ARGUMENT, 1, 5, "letters", () -> Edges.drafting("1"),
                    (ledger, it) -> ledger.word(0, it, '.'));
            worded("1", 1, '.', "b");
            worded("1", 1, '.', "baaaa");
        });
        Check.sentence("4: how it is joined: n with nothing between, '.', '-' or '+'", () -> {
            Edges.signs(Check.ARGUMENT, "n.-+", "word", () -> Edges.drafting("1-2"),
                    (ledger, it) -> ledger.word(1, 1, it));
            for (char how : Edges.WAYS) {
                worded("1-2", 27, how, "Ba");
            }
        });
        Check.sentence("4: returns how many signs the draft has then, 2 to 60", () -> {
            worded("0", 0, 'n', "a");
            worded(Edges.textOf(54), 0, '.', "aaaaa");
            worded(Edges.textOf(59), 0, 'n', "a");
        });
    }

    private static void promise4WordLetters() {
        Check.sentence("4: of its code without the sign bit", () -> {
            worded("1", Integer.MIN_VALUE, 'n', "aaaaa");
            worded("1", Integer.MIN_VALUE + 1, 'n', "baaaa");
            worded("1", -1, 'n', "xMRKH");
            worded("1", Integer.MAX_VALUE, 'n', "xMRKH");
        });
        Check.sentence("4: of what is left as it is divided by 52 again and again, the first letter first", () -> {
            worded("1", 51, 'n', "Zaaaa");
            worded("1", 52, 'n', "abaaa");
            worded("1", 52 * 52 - 1, 'n', "ZZaaa");
            worded("1", 52 * 52, 'n', "aabaa");
            worded("1", 52 * 52 * 52, 'n', "aaaba");
            worded("1", 52 * 52 * 52 * 52, 'n', "aaaab");
            worded("1", 380204031, 'n', "ZZZZZ");
            worded("1", 380204032, 'n', "aaaaa");
            worded("1", 51 + 52 * 51, 'n', "Z");
        });
        Check.sentence("4: 0 to 25 for a to z, 26 to 51 for A to Z", () -> {
            for (int code = 0; code < 26; code++) {
                worded("1", code, 'n', Character.toString('a' + code));
                worded("1", 26 + code, 'n', Character.toString('A' + code));
            }
        });
    }

    private static void promise4WordRefused() {
        Check.sentence("4: IllegalArgumentException, first, if the number of letters is out of range,"
                + " or there is no such way", () -> {
            for (String draft : new String[] {"", "1a", FULL}) {
                wordRefused(Check.ARGUMENT, draft, 0, '.');
                wordRefused(Check.ARGUMENT, draft, 6, 'n');
                wordRefused(Check.ARGUMENT, draft, -1, '+');
                wordRefused(Check.ARGUMENT, draft, 1, 'N');
                wordRefused(Check.ARGUMENT, draft, 6, 'N');
            }
        });
        Check.sentence("4: IllegalStateException if the draft is empty", () -> {
            for (char how : Edges.WAYS) {
                wordRefused(Check.STATE, "", 1, how);
            }
        });
        Check.sentence("4: IllegalStateException if the token cannot be joined so here", () -> {
            wordRefused(Check.STATE, "1a", 1, 'n');
            wordRefused(Check.STATE, "1.Z", 1, 'n');
            wordRefused(Check.STATE, "1-z", 1, 'n');
            wordRefused(Check.STATE, "1-a+A", 1, 'n');
            wordRefused(Check.STATE, "1", 1, '+');
            wordRefused(Check.STATE, "1.2a", 1, '+');
        });
    }

    private static void promise4WordWithoutRoom() {
        Check.sentence("4: IllegalStateException if the draft would have more than 60 signs", () -> {
            wordRefused(Check.STATE, Edges.textOf(55), 5, '.');
            worded(Edges.textOf(55), 0, '-', "aaaa");
            worded(Edges.textOf(55), 0, 'n', "aaaaa");
            wordRefused(Check.STATE, Edges.textOf(56), 5, 'n');
            worded(Edges.textOf(58, "-2"), 0, '+', "a");
            wordRefused(Check.STATE, Edges.textOf(59, "-2"), 1, '+');
            wordRefused(Check.STATE, Edges.textOf(59), 1, '.');
            wordRefused(Check.STATE, FULL, 1, 'n');
        });
    }

    private static void promise5Drop() {
        Check.sentence("5: empties the draft", () -> {
            for (String draft : new String[] {"", "1", FULL}) {
                Releaseledger ledger = Edges.drafting(draft);
                ledger.drop();
                Check.due("", "the dropped draft", () -> Check.draft(ledger));
                Check.refused(Check.STATE, ledger, "add() to what was dropped", () -> ledger.add(1, 0, '.'));
            }
        });
        Check.sentence("5: returns how many signs it had, 0 to 60", () -> {
            Check.due(0, "drop() of none", () -> Edges.drafting("").drop());
            Check.due(1, "drop() of one sign", () -> Edges.drafting("1").drop());
            Check.due(59, "drop() of 59 signs", () -> Edges.drafting(Edges.textOf(59)).drop());
            Releaseledger full = Edges.drafting(FULL);
            Check.due(60, "drop() of 60 signs", full::drop);
            Check.due(0, "drop() again", full::drop);
        });
    }

    private static void promise6Sign() {
        Check.sentence("6: place: from 0", () -> {
            Check.due('1', "sign(0) of one", () -> Edges.drafting("1").sign(0));
            Check.due('2', "sign(0)", () -> Edges.drafting("2-a").sign(0));
            Check.due('a', "sign(2)", () -> Edges.drafting("2-a").sign(2));
            Check.due('Z', "sign(59)", () -> Edges.drafting(Edges.textOf(60, "Z")).sign(59));
        });
        Check.sentence("6: IndexOutOfBoundsException if there is no such place", () -> {
            for (String draft : new String[] {"", "1", "2-a", Edges.textOf(59), FULL}) {
                for (int place : new int[] {-1, draft.length(), 60, Integer.MIN_VALUE, Integer.MAX_VALUE}) {
                    Releaseledger ledger = Edges.drafting(draft);
                    Check.refused(Check.SLOT, ledger, "sign(" + place + ") of " + draft, () -> ledger.sign(place));
                }
            }
            Releaseledger ledger = Edges.drafting(FULL);
            ledger.begin(1, 0);
            Check.refused(Check.SLOT, ledger, "sign(1) of a draft begun anew", () -> ledger.sign(1));
            ledger.drop();
            Check.refused(Check.SLOT, ledger, "sign(0) of a dropped draft", () -> ledger.sign(0));
        });
    }
}
