/** The terms, exceptions: what each refused call leaves as it was, and which exception goes first. */
final class RefusedEdgesTest {
    private static final String[] TEXTS = {"1.2-a.3+b", "1", "0000", "1-a", "2A", "999999", "1-a+0", Edges.textOf(60)};
    private static final String FULL = Edges.textOf(60);

    interface OnLedger {
        Object answer(Releaseledger ledger);
    }

    public static void main(String[] args) {
        draftRefused();
        versionsRefused();
        orderRefused();
        behindRefused();
        firstOfDraft();
        firstOfVersions();
        firstOfBehind();
        Check.end("RefusedEdgesTest");
    }

    private static Releaseledger made(String draft) {
        Releaseledger ledger = Check.holding(TEXTS);
        Check.write(ledger, draft);
        return ledger;
    }

    /** All that can be asked of the rows and the order; with the texts this is more than 512 calls at once. */
    private static String rowsAndOrder(Releaseledger ledger) {
        StringBuilder told = new StringBuilder();
        for (int slot = 0; slot < 8; slot++) {
            told.append(slot).append(ledger.at(slot)).append(ledger.rank(slot)).append(ledger.isHashed(slot));
            for (int row = 0; row < 3; row++) {
                int tokens = ledger.tokens(slot, row);
                for (int place = 0; place < tokens; place++) {
                    told.append(' ').append(ledger.token(slot, row, place));
                }
                told.append('/');
            }
            for (int other = 0; other < 8; other++) {
                told.append(ledger.compare(slot, other)).append(ledger.apart(slot, other));
            }
        }
        return told.append(ledger.wordShare()).append(ledger.isTrue()).append(ledger.sort()).toString();
    }

    private static void unchanged(String draft, Class<?> due, String what, OnLedger call) {
        Releaseledger texts = made(draft);
        Check.due(due, what, () -> call.answer(texts));
        Check.due(Check.state(made(draft)), "the texts behind " + what, () -> Check.state(texts));
        Releaseledger rows = made(draft);
        Check.due(due, what + " again", () -> call.answer(rows));
        Check.due(rowsAndOrder(made(draft)), "rows and order behind " + what, () -> rowsAndOrder(rows));
    }

    private static void draftRefused() {
        Check.sentence("a call of the draft that throws an exception changes nothing", () -> {
            unchanged("7-b", Check.ARGUMENT, "begin of a number", it -> it.begin(1000000, 0));
            unchanged("7-b", Check.ARGUMENT, "begin of zeros", it -> it.begin(1, 4));
            unchanged("7-b", Check.ARGUMENT, "add of a number", it -> it.add(-1, 0, '.'));
            unchanged("7-b", Check.ARGUMENT, "add of zeros", it -> it.add(1, -1, '.'));
            unchanged("7-b", Check.ARGUMENT, "add in no way", it -> it.add(1, 0, ','));
            unchanged("", Check.STATE, "add to none", it -> it.add(1, 0, '.'));
            unchanged("7", Check.STATE, "add joined so", it -> it.add(1, 0, '+'));
            unchanged(FULL, Check.STATE, "add to 60 signs", it -> it.add(1, 0, '-'));
            unchanged("7-b", Check.ARGUMENT, "word of letters", it -> it.word(1, 6, '.'));
            unchanged("7-b", Check.ARGUMENT, "word in no way", it -> it.word(1, 1, ','));
            unchanged("", Check.STATE, "word to none", it -> it.word(1, 1, '.'));
            unchanged("7-b", Check.STATE, "word joined so", it -> it.word(1, 1, 'n'));
            unchanged(FULL, Check.STATE, "word to 60 signs", it -> it.word(1, 1, 'n'));
            unchanged("7-b", Check.SLOT, "sign", it -> it.sign(3));
        });
    }

    private static void versionsRefused() {
        Check.sentence("a call of versions that throws an exception changes nothing", () -> {
            unchanged("7-b", Check.SLOT, "parse into no slot", it -> it.parse(8));
            unchanged("", Check.ARGUMENT, "parse of none", it -> it.parse(0));
            unchanged("7-b", Check.SLOT, "triple into no slot", it -> it.triple(-1, 1, 2, 3));
            unchanged("7-b", Check.ARGUMENT, "triple of a number", it -> it.triple(0, 1, 2, 1000000));
            unchanged("7-b", Check.SLOT, "copy of no slot", it -> it.copy(8, 0));
            unchanged("7-b", Check.SLOT, "copy into no slot", it -> it.copy(0, 8));
            unchanged("7-b", Check.SLOT, "size of no slot", it -> it.size(8));
            unchanged("7-b", Check.SLOT, "text of no slot", it -> it.text(8, 0));
            unchanged("7-b", Check.SLOT, "text at no place", it -> it.text(1, 1));
            unchanged("7-b", Check.SLOT, "tokens of no slot", it -> it.tokens(8, 0));
            unchanged("7-b", Check.ARGUMENT, "tokens of no row", it -> it.tokens(0, 3));
            unchanged("7-b", Check.SLOT, "token of no slot", it -> it.token(8, 0, 0));
            unchanged("7-b", Check.SLOT, "token at no place", it -> it.token(1, 0, 1));
            unchanged("7-b", Check.ARGUMENT, "token of no row", it -> it.token(0, 3, 0));
        });
    }

    private static void orderRefused() {
        Check.sentence("a call of order, or of all, that throws an exception changes nothing", () -> {
            unchanged("7-b", Check.SLOT, "compare", it -> it.compare(0, 8));
            unchanged("7-b", Check.SLOT, "isSame", it -> it.isSame(-1, 0));
            unchanged("7-b", Check.SLOT, "apart", it -> it.apart(0, 8));
            unchanged("7-b", Check.SLOT, "rank", it -> it.rank(8));
            unchanged("7-b", Check.SLOT, "at", it -> it.at(8));
            unchanged("7-b", Check.SLOT, "between", it -> it.between(0, -1));
            unchanged("7-b", Check.SLOT, "isHashed", it -> it.isHashed(8));
        });
    }

    private static void behindRefused() {
        Check.sentence("a call of what is put behind that throws an exception changes nothing", () -> {
            unchanged("7-b", Check.SLOT, "zero of no slot", it -> it.zero(8, 0));
            unchanged("7-b", Check.SLOT, "zero into no slot", it -> it.zero(0, 8));
            unchanged("7-b", Check.STATE, "zero without room", it -> it.zero(7, 0));
            unchanged("7-b", Check.SLOT, "longer of no slot", it -> it.longer(8, 1, 0));
            unchanged("7-b", Check.SLOT, "longer into no slot", it -> it.longer(0, 1, 8));
            unchanged("7-b", Check.ARGUMENT, "longer by no number", it -> it.longer(0, 1000, 1));
            unchanged("7-b", Check.STATE, "longer without room", it -> it.longer(7, 1, 0));
            unchanged("7-b", Check.SLOT, "early of no slot", it -> it.early(8, 'a', 0));
            unchanged("7-b", Check.SLOT, "early into no slot", it -> it.early(1, 'a', 8));
            unchanged("7-b", Check.ARGUMENT, "early by no letter", it -> it.early(1, 'A', 0));
            unchanged("7-b", Check.STATE, "early of an early one", it -> it.early(3, 'a', 0));
            unchanged("7-b", Check.STATE, "early without room", it -> it.early(7, 'a', 0));
            unchanged("7-b", Check.SLOT, "built of no slot", it -> it.built(8, 1, 0));
            unchanged("7-b", Check.SLOT, "built into no slot", it -> it.built(3, 1, 8));
            unchanged("7-b", Check.ARGUMENT, "built by no number", it -> it.built(3, 1000, 0));
            unchanged("7-b", Check.STATE, "built of one without an early row", it -> it.built(1, 1, 0));
            unchanged("7-b", Check.STATE, "built of a built one", it -> it.built(0, 1, 1));
            Releaseledger ledger = Check.holding(Edges.textOf(60, "-a"));
            Check.refused(Check.STATE, ledger, "built without room", () -> ledger.built(0, 0, 1));
        });
    }

    private static void first(Class<?> due, String draft, String what, OnLedger call) {
        Releaseledger ledger = made(draft);
        Check.due(due, what, () -> call.answer(ledger));
    }

    private static void firstOfDraft() {
        Check.sentence("of several exceptions of the draft the one that is documented first is thrown", () -> {
            for (String draft : new String[] {"", "7", FULL}) {
                first(Check.ARGUMENT, draft, "add: a number, and joined so", it -> it.add(-1, 0, 'n'));
                first(Check.ARGUMENT, draft, "add: zeros, and joined so", it -> it.add(1, 4, '+'));
                first(Check.ARGUMENT, draft, "add: no such way", it -> it.add(1, 0, 'x'));
                first(Check.ARGUMENT, draft, "word: letters, and joined so", it -> it.word(1, 6, '+'));
                first(Check.ARGUMENT, draft, "word: no letters, and joined so", it -> it.word(1, 0, '+'));
                first(Check.ARGUMENT, draft, "word: no such way", it -> it.word(1, 1, 'x'));
            }
        });
    }

    private static void firstOfVersions() {
        Check.sentence("of several exceptions of versions the one that is documented first is thrown", () -> {
            first(Check.SLOT, "", "parse: slot, and an empty draft", it -> it.parse(8));
            first(Check.SLOT, "7", "triple: slot, and a number", it -> it.triple(8, -1, -1, -1));
            first(Check.SLOT, "7", "tokens: slot, and row", it -> it.tokens(8, 3));
            first(Check.SLOT, "7", "token: slot, and row", it -> it.token(8, 3, 0));
            first(Check.SLOT, "7", "token: slot, row, and place", it -> it.token(-1, -1, -1));
            first(Check.ARGUMENT, "7", "token: row, whatever the place", it -> it.token(0, 3, 99));
        });
    }

    private static void firstOfBehind() {
        Check.sentence("of several exceptions of what is put behind the one documented first is thrown", () -> {
            first(Check.SLOT, "7", "zero: slot, and room", it -> it.zero(7, 8));
            first(Check.SLOT, "7", "longer: slot, and number", it -> it.longer(8, 0, 0));
            first(Check.SLOT, "7", "longer: slot, number, and room", it -> it.longer(7, 0, 8));
            first(Check.SLOT, "7", "longer: slot, and room", it -> it.longer(7, 1, 8));
            first(Check.ARGUMENT, "7", "longer: number, and room", it -> it.longer(7, 0, 0));
            first(Check.SLOT, "7", "early: slot, and letter", it -> it.early(8, 'A', 0));
            first(Check.SLOT, "7", "early: slot, letter, and early row", it -> it.early(3, 'A', 8));
            first(Check.SLOT, "7", "early: slot, and early row", it -> it.early(3, 'a', 8));
            first(Check.ARGUMENT, "7", "early: letter, and early row", it -> it.early(3, 'A', 0));
            first(Check.ARGUMENT, "7", "early: letter, and room", it -> it.early(7, '{', 0));
            first(Check.SLOT, "7", "built: slot, and number", it -> it.built(8, 1000, 0));
            first(Check.SLOT, "7", "built: slot, number, and no early row", it -> it.built(1, 1000, 8));
            first(Check.SLOT, "7", "built: slot, and build row", it -> it.built(0, 1, 8));
            first(Check.ARGUMENT, "7", "built: number, and no early row", it -> it.built(1, 1000, 0));
            first(Check.ARGUMENT, "7", "built: number, and build row", it -> it.built(0, -1, 0));
        });
    }
}
