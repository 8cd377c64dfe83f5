/** Promises 7 to 13, versions: each sentence that names a boundary case has a test of its own. */
final class VersionsEdgesTest {
    private static final String FULL = Edges.textOf(60, "a-b+c");
    private static final int[] NO_ROWS = {-1, 3, Integer.MIN_VALUE, Integer.MAX_VALUE};
    private static final int[] FAR_PLACES = {-1, 60, Integer.MIN_VALUE, Integer.MAX_VALUE};

    public static void main(String[] args) {
        promise7Parse();
        promise7ParseOverFullRows();
        promise7ParseRefused();
        promise8Triple();
        promise8TripleRefused();
        promise9Copy();
        promise10Size();
        promise11Text();
        promise12Tokens();
        promise12TokensInFullRows();
        promise13Token();
        promise13TokenSizes();
        promise13TokenRefused();
        Check.end("VersionsEdgesTest");
    }

    private static void parsed(String before, String draft, int order) {
        Releaseledger ledger = Check.holding("5", before);
        Check.write(ledger, draft);
        Check.due(order, "parse(1) of " + draft + " over " + before, () -> ledger.parse(1));
        Check.due(draft, "the version parsed", () -> Check.told(ledger, 1));
    }

    private static void promise7Parse() {
        Check.sentence("7: parses the draft, which stays, of 1 to 60 signs", () -> {
            for (String draft : new String[] {"1", Edges.textOf(59), FULL}) {
                Releaseledger ledger = Edges.drafting(draft);
                ledger.parse(0);
                Check.due(draft, "the version parsed", () -> Check.told(ledger, 0));
                Check.due(draft, "the draft, which stays", () -> Check.draft(ledger));
                Check.due(0, "parse(0) again", () -> ledger.parse(0));
            }
        });
        Check.sentence("7: slot 0 to 7", () -> {
            Edges.slots("parse", () -> Edges.drafting("1-a"), Releaseledger::parse);
            for (int slot = 0; slot < 8; slot++) {
                int each = slot;
                Releaseledger ledger = Edges.drafting("1");
                ledger.parse(slot);
                for (int other = 0; other < 8; other++) {
                    int told = other;
                    Check.due(slot == other ? "1" : "0", "slot " + other + " behind parse(" + slot + ")",
                            () -> Check.told(ledger, told));
                }
                Check.due(7, "rank(" + slot + ")", () -> ledger.rank(each));
            }
        });
        Check.sentence("7: returns how the version compares with the one that was there: -1, 0 or 1", () -> {
            parsed("0", "999999", 1);
            parsed("999999", "0", -1);
            parsed("0", "0", 0);
            parsed("0", "0000.0", 0);
            parsed("1", "1-0", -1);
            parsed("1-0", "1", 1);
            parsed("1-a", "1-a+0", 0);
            parsed("1-a", "1-a+1", 1);
            parsed("1-a+1", "1-a", -1);
        });
    }

    /** What a full row had told is not told of a shorter one that comes after it, in whatever slot. */
    private static void promise7ParseOverFullRows() {
        Check.sentence("7: what is parsed over full rows ends where its text ends", () -> {
            String[] full = {"1a".repeat(30), "1-" + "a1".repeat(29), "1-a+" + "1a".repeat(28)};
            for (String each : full) {
                Releaseledger ledger = Check.holding(each, each, each);
                Check.write(ledger, "1-a+1");
                for (int slot = 0; slot < 3; slot++) {
                    ledger.parse(slot);
                }
                ledger.add(0, 0, '.');
                ledger.parse(2);
                for (int pair = 0; pair < 9; pair++) {
                    int one = pair / 3;
                    int other = pair % 3;
                    Check.due(0, "compare " + one + " " + other, () -> ledger.compare(one, other));
                    Check.due(-1, "apart " + one + " " + other, () -> ledger.apart(one, other));
                }
            }
        });
    }

    private static void promise7ParseRefused() {
        Check.sentence("7: IndexOutOfBoundsException, first, if there is no such slot", () -> {
            for (int slot : new int[] {-1, 8}) {
                for (String draft : new String[] {"", "1", FULL}) {
                    Releaseledger ledger = Edges.drafting(draft);
                    Check.refused(Check.SLOT, ledger, "parse(" + slot + ") of " + draft, () -> ledger.parse(slot));
                }
            }
        });
        Check.sentence("7: IllegalArgumentException if the draft is empty", () -> {
            for (int slot = 0; slot < 8; slot++) {
                int each = slot;
                Releaseledger ledger = Check.holding("1", "2");
                Check.refused(Check.ARGUMENT, ledger, "parse(" + slot + ") of none", () -> ledger.parse(each));
            }
        });
    }

    private static void tripled(String before, int first, int second, int third, int order) {
        Releaseledger ledger = Edges.holding("5", before);
        String due = first + "." + second + "." + third;
        Check.due(order, "triple " + due + " over " + before, () -> ledger.triple(1, first, second, third));
        Check.due(due, "the triple parsed", () -> Check.told(ledger, 1));
        Check.due("7.8", "the draft beside the triple", () -> Check.draft(ledger));
    }

    private static void promise8Triple() {
        Check.sentence("8: parses three numbers, joined with points", () -> {
            tripled("0", 0, 0, 0, 0);
            tripled("0", 999999, 999999, 999999, 1);
            tripled("0", 9, 10, 99, 1);
            tripled("0", 100000, 99999, 1000, 1);
        });
        Check.sentence("8: slot 0 to 7", () -> Edges.slots("triple", Releaseledger::new,
                (ledger, it) -> ledger.triple(it, 1, 2, 3)));
        Check.sentence("8: first 0 to 999999", () -> Edges.range(Check.ARGUMENT, 0, 999999, "first",
                Releaseledger::new, (ledger, it) -> ledger.triple(0, it, 2, 3)));
        Check.sentence("8: second 0 to 999999", () -> Edges.range(Check.ARGUMENT, 0, 999999, "second",
                Releaseledger::new, (ledger, it) -> ledger.triple(0, 1, it, 3)));
        Check.sentence("8: third 0 to 999999", () -> Edges.range(Check.ARGUMENT, 0, 999999, "third",
                Releaseledger::new, (ledger, it) -> ledger.triple(0, 1, 2, it)));
        Check.sentence("8: returns how the version compares with the one that was there: -1, 0 or 1", () -> {
            tripled("1", 1, 0, 0, 0);
            tripled("1", 1, 0, 1, 1);
            tripled("1.0.1", 1, 0, 0, -1);
            tripled("999999.999999.999999", 0, 0, 0, -1);
            tripled("1.2.3-a", 1, 2, 3, 1);
            tripled("1.2.3a", 1, 2, 3, -1);
        });
    }

    private static void promise8TripleRefused() {
        Check.sentence("8: IndexOutOfBoundsException, first, if there is no such slot", () -> {
            for (int slot : new int[] {-1, 8}) {
                Releaseledger ledger = Edges.holding("1");
                Check.refused(Check.SLOT, ledger, "triple into " + slot, () -> ledger.triple(slot, 1, 2, 3));
                Check.refused(Check.SLOT, ledger, "triple -1 into " + slot, () -> ledger.triple(slot, -1, 2, 3));
                Check.refused(Check.SLOT, ledger, "triple .. 1000000", () -> ledger.triple(slot, 1, 2, 1000000));
            }
        });
        Check.sentence("8: IllegalArgumentException if one of the numbers is out of range", () -> {
            for (int number : new int[] {-1, 1000000}) {
                Releaseledger ledger = Edges.holding("1");
                Check.refused(Check.ARGUMENT, ledger, "the first", () -> ledger.triple(0, number, 0, 0));
                Check.refused(Check.ARGUMENT, ledger, "the second", () -> ledger.triple(0, 0, number, 0));
                Check.refused(Check.ARGUMENT, ledger, "the third", () -> ledger.triple(0, 0, 0, number));
                Check.refused(Check.ARGUMENT, ledger, "all three", () -> ledger.triple(0, number, number, number));
            }
        });
    }

    private static void copied(String text, String before, int order) {
        Releaseledger ledger = Edges.holding("5", text, before);
        Check.due(order, "copy of " + text + " over " + before, () -> ledger.copy(1, 2));
        Check.due(text, "the copy", () -> Check.told(ledger, 2));
        Check.due(text, "what was copied", () -> Check.told(ledger, 1));
        Check.due("5", "the slot beside", () -> Check.told(ledger, 0));
    }

    private static void promise9Copy() {
        Check.sentence("9: puts the version into another one, parsed anew of its text", () -> {
            copied("0001.00-000a+00", "9", -1);
            copied("1", FULL, -1);
            copied(FULL, "1", 1);
            Releaseledger ledger = Check.holding(FULL);
            Check.due(0, "copy into itself", () -> ledger.copy(0, 0));
            Check.due(FULL, "what was copied into itself", () -> Check.told(ledger, 0));
        });
        Check.sentence("9: slot 0 to 7", () -> Edges.slots("copy", () -> Edges.holding("1", "2"),
                (ledger, it) -> ledger.copy(it, 0)));
        Check.sentence("9: to 0 to 7", () -> Edges.slots("copy to", () -> Edges.holding("1", "2"),
                (ledger, it) -> ledger.copy(1, it)));
        Check.sentence("9: returns how the version compares with the one that was there: -1, 0 or 1", () -> {
            copied("1-0", "1", -1);
            copied("1.000", "01", 0);
            copied("1", "1-0", 1);
        });
        Check.sentence("9: IndexOutOfBoundsException if there is no such slot, for either", () -> {
            Releaseledger ledger = Edges.holding("1");
            Check.refused(Check.SLOT, ledger, "copy(-1, 0)", () -> ledger.copy(-1, 0));
            Check.refused(Check.SLOT, ledger, "copy(8, 0)", () -> ledger.copy(8, 0));
            Check.refused(Check.SLOT, ledger, "copy(0, -1)", () -> ledger.copy(0, -1));
            Check.refused(Check.SLOT, ledger, "copy(0, 8)", () -> ledger.copy(0, 8));
            Check.refused(Check.SLOT, ledger, "copy(8, 8)", () -> ledger.copy(8, 8));
        });
    }

    private static void promise10Size() {
        Check.sentence("10: slot 0 to 7, with IndexOutOfBoundsException otherwise", () -> Edges.slots("size",
                () -> Edges.holding("1", FULL), Releaseledger::size));
        Check.sentence("10: returns how many signs the text has, 1 to 60", () -> {
            for (int signs = 1; signs <= 60; signs++) {
                Releaseledger ledger = Check.holding("5", Edges.textOf(signs));
                Check.due(signs, "size of " + signs, () -> ledger.size(1));
            }
            Releaseledger ledger = Check.holding(FULL);
            ledger.triple(0, 0, 0, 0);
            Check.due(5, "size of a shorter one behind a full one", () -> ledger.size(0));
        });
    }

    private static void promise11Text() {
        Check.sentence("11: slot 0 to 7", () -> Edges.slots("text", () -> Edges.holding("1", FULL),
                (ledger, it) -> ledger.text(it, 0)));
        Check.sentence("11: place: from 0", () -> {
            Releaseledger ledger = Check.holding("1", "2-Z", FULL);
            Check.due('1', "text(0, 0)", () -> ledger.text(0, 0));
            Check.due('2', "text(1, 0)", () -> ledger.text(1, 0));
            Check.due('Z', "text(1, 2)", () -> ledger.text(1, 2));
            Check.due('1', "text(2, 0)", () -> ledger.text(2, 0));
            Check.due('c', "text(2, 59)", () -> ledger.text(2, 59));
        });
        Check.sentence("11: IndexOutOfBoundsException if there is no such slot or place", () -> {
            Releaseledger ledger = Edges.holding("1", "2-Z", FULL);
            for (int place : FAR_PLACES) {
                Check.refused(Check.SLOT, ledger, "text(0, " + place + ")", () -> ledger.text(0, place));
                Check.refused(Check.SLOT, ledger, "text(2, " + place + ")", () -> ledger.text(2, place));
                Check.refused(Check.SLOT, ledger, "text(8, " + place + ")", () -> ledger.text(8, place));
            }
            Check.refused(Check.SLOT, ledger, "text(0, 1)", () -> ledger.text(0, 1));
            Check.refused(Check.SLOT, ledger, "text(1, 3)", () -> ledger.text(1, 3));
            ledger.copy(0, 2);
            Check.refused(Check.SLOT, ledger, "text(2, 1) behind a full one", () -> ledger.text(2, 1));
        });
    }

    private static void counted(String text, int... counts) {
        Releaseledger ledger = Check.holding("5", text);
        for (int row = 0; row < 3; row++) {
            int each = row;
            Check.due(counts[row], "tokens of " + text + " in row " + row, () -> ledger.tokens(1, each));
        }
    }

    private static void promise12Tokens() {
        Check.sentence("12: slot 0 to 7, with IndexOutOfBoundsException, first, otherwise", () -> {
            Edges.slots("tokens", () -> Edges.holding("1", FULL), (ledger, it) -> ledger.tokens(it, 2));
            for (int row : NO_ROWS) {
                Releaseledger ledger = Edges.holding("1");
                Check.refused(Check.SLOT, ledger, "tokens(-1, " + row + ")", () -> ledger.tokens(-1, row));
                Check.refused(Check.SLOT, ledger, "tokens(8, " + row + ")", () -> ledger.tokens(8, row));
            }
        });
        Check.sentence("12: row 0 for the number row, 1 for the early row, 2 for the build row", () -> {
            counted("1", 1, 0, 0);
            counted("1-a", 1, 1, 0);
            counted("1-a+b", 1, 1, 1);
            counted("1.2a-3-b.c+4+d-5.6", 3, 3, 4);
        });
        Check.sentence("12: IllegalArgumentException if there is no such row", () -> Edges.range(Check.ARGUMENT, 0, 2,
                "row", () -> Edges.holding("1", "1-a+b"), (ledger, it) -> ledger.tokens(1, it)));
    }

    private static void promise12TokensInFullRows() {
        Check.sentence("12: returns how many tokens, none to 60", () -> {
            counted("1a".repeat(30), 60, 0, 0);
            counted("1-" + "a1".repeat(29), 1, 58, 0);
            counted("1-a+" + "1a".repeat(28), 1, 1, 56);
            counted("1" + "-1+1".repeat(14), 1, 1, 27);
            Releaseledger ledger = Check.holding("1a".repeat(30), "1-" + "a1".repeat(29), "1-a+" + "1a".repeat(28));
            ledger.triple(0, 1, 2, 3);
            ledger.triple(1, 1, 2, 3);
            ledger.triple(2, 1, 2, 3);
            Check.due(3, "tokens behind a full number row", () -> ledger.tokens(0, 0));
            Check.due(0, "tokens behind a full early row", () -> ledger.tokens(1, 1));
            Check.due(0, "tokens behind a full build row", () -> ledger.tokens(2, 2));
        });
    }

    private static void promise13Token() {
        Check.sentence("13: slot 0 to 7", () -> Edges.slots("token", () -> Edges.holding("1", FULL),
                (ledger, it) -> ledger.token(it, 0, 0)));
        Check.sentence("13: row 0 to 2", () -> Edges.range(Check.ARGUMENT, 0, 2, "row of a token",
                () -> Edges.holding("1", "1-a+b"), (ledger, it) -> ledger.token(1, it, 0)));
        Check.sentence("13: place: from 0", () -> {
            Releaseledger ledger = Check.holding("1a".repeat(30), "3.4-5-6+7+8");
            Check.due(1, "token(0, 0, 0)", () -> ledger.token(0, 0, 0));
            Check.due(-2, "token(0, 0, 59)", () -> ledger.token(0, 0, 59));
            for (int row = 0; row < 3; row++) {
                int each = row;
                Check.due(3 + 2 * row, "token(1, " + row + ", 0)", () -> ledger.token(1, each, 0));
                Check.due(4 + 2 * row, "token(1, " + row + ", 1)", () -> ledger.token(1, each, 1));
            }
        });
    }

    private static void promise13TokenSizes() {
        Check.sentence("13: returns its size, if it is a number, 0 to 999999999", () -> {
            Releaseledger ledger = Check.holding("0.0000.9.10.000999999999.999999999");
            int[] sizes = {0, 0, 9, 10, 999999999, 999999999};
            for (int place = 0; place < sizes.length; place++) {
                int each = place;
                Check.due(sizes[place], "the size at " + place, () -> ledger.token(0, 0, each));
            }
        });
        Check.sentence("13: for a word -1 less how many letters it has, -2 to -6", () -> {
            Releaseledger ledger = Check.holding("1-a-aa-aaa-ZZZZ-zzzzz");
            for (int place = 0; place < 5; place++) {
                int each = place;
                Check.due(-2 - place, "the word at " + place, () -> ledger.token(0, 1, each));
            }
        });
    }

    private static void promise13TokenRefused() {
        Check.sentence("13: IndexOutOfBoundsException, first, if there is no such slot", () -> {
            for (int slot : new int[] {-1, 8}) {
                Releaseledger ledger = Edges.holding("1");
                Check.refused(Check.SLOT, ledger, "token(" + slot + ", 0, 0)", () -> ledger.token(slot, 0, 0));
                Check.refused(Check.SLOT, ledger, "token(" + slot + ", 3, 0)", () -> ledger.token(slot, 3, 0));
                Check.refused(Check.SLOT, ledger, "token(" + slot + ", -1, -1)", () -> ledger.token(slot, -1, -1));
            }
        });
        Check.sentence("13: IndexOutOfBoundsException if there is no such place in the row", () -> {
            Releaseledger ledger = Edges.holding("1", "1.2-3.a+b.c", "1a".repeat(30));
            for (int place : FAR_PLACES) {
                Check.refused(Check.SLOT, ledger, "token(2, 0, " + place + ")", () -> ledger.token(2, 0, place));
                for (int row = 0; row < 3; row++) {
                    int each = row;
                    Check.refused(Check.SLOT, ledger, "far off in row " + row, () -> ledger.token(1, each, place));
                }
            }
            for (int row = 0; row < 3; row++) {
                int each = row;
                Check.refused(Check.SLOT, ledger, "behind row " + row, () -> ledger.token(1, each, 2));
            }
            Check.refused(Check.SLOT, ledger, "token(0, 0, 1)", () -> ledger.token(0, 0, 1));
            Check.refused(Check.SLOT, ledger, "in an early row of none", () -> ledger.token(0, 1, 0));
            Check.refused(Check.SLOT, ledger, "in a build row of none", () -> ledger.token(0, 2, 0));
        });
        Check.sentence("13: IllegalArgumentException if there is no such row, whatever the place", () -> {
            for (int row : NO_ROWS) {
                Releaseledger ledger = Edges.holding("1");
                Check.refused(Check.ARGUMENT, ledger, "row " + row, () -> ledger.token(0, row, 0));
                Check.refused(Check.ARGUMENT, ledger, "row " + row + ", place -1", () -> ledger.token(0, row, -1));
                Check.refused(Check.ARGUMENT, ledger, "row " + row + ", place 1", () -> ledger.token(0, row, 1));
            }
        });
    }
}
