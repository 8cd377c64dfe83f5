/** Promises 1 to 6: a new object and the draft. */
final class DraftTest {
    private static final int[] WRONG_ZEROS = {-1, 4, Integer.MIN_VALUE, Integer.MAX_VALUE};
    private static final char[] WRONG_WAYS = {'N', ',', ' ', '/', '*', 'm', 'o', '0', 0, 65535};

    public static void main(String[] args) {
        promise1NewObject();
        promise2Begin();
        promise2BeginRefused();
        promise3Add();
        promise3AddRefused();
        promise3AddInRows();
        promise3AddRoom();
        promise4Word();
        promise4WordLetters();
        promise4WordRefused();
        promise4WordInRows();
        promise4WordRoom();
        promise5Drop();
        promise6Sign();
        Check.end("DraftTest");
    }

    private static void promise1NewObject() {
        Releaseledger ledger = new Releaseledger();
        Check.due("", "a new draft", () -> Check.draft(ledger));
        Check.due(0, "a new draft's signs", ledger::drop);
        for (int slot = 0; slot < 8; slot++) {
            int each = slot;
            Check.due("0", "a new slot " + slot, () -> Check.told(ledger, each));
            Check.due(1, "number tokens of a new slot", () -> ledger.tokens(each, 0));
            Check.due(0, "a new slot's number", () -> ledger.token(each, 0, 0));
            Check.due(0, "early tokens of a new slot", () -> ledger.tokens(each, 1));
            Check.due(0, "build tokens of a new slot", () -> ledger.tokens(each, 2));
        }
        Releaseledger other = new Releaseledger();
        other.begin(5, 0);
        other.parse(3);
        Check.due("0", "another object's slot", () -> Check.told(ledger, 3));
    }

    private static void promise2Begin() {
        Releaseledger ledger = new Releaseledger();
        begun(ledger, 0, 0, "0");
        begun(ledger, 0, 3, "0000");
        begun(ledger, 7, 1, "07");
        begun(ledger, 10, 0, "10");
        begun(ledger, 100200, 2, "00100200");
        begun(ledger, 999999, 0, "999999");
        begun(ledger, 999999, 3, "000999999");
        ledger.add(3, 0, '.');
        begun(ledger, 42, 0, "42");
    }

    private static void begun(Releaseledger ledger, int number, int zeros, String draft) {
        Check.due(draft.length(), "begin(" + number + ", " + zeros + ")", () -> ledger.begin(number, zeros));
        Check.due(draft, "the draft begun with " + number, () -> Check.draft(ledger));
    }

    private static void promise2BeginRefused() {
        Releaseledger ledger = Check.holding("1", "2-a");
        Check.write(ledger, "3.4");
        for (int number : new int[] {-1, 1000000, Integer.MIN_VALUE, Integer.MAX_VALUE}) {
            Check.refused(Check.ARGUMENT, ledger, "begin(" + number + ", 0)", () -> ledger.begin(number, 0));
        }
        for (int zeros : WRONG_ZEROS) {
            Check.refused(Check.ARGUMENT, ledger, "begin(1, " + zeros + ")", () -> ledger.begin(1, zeros));
        }
    }

    private static void promise3Add() {
        Releaseledger ledger = new Releaseledger();
        ledger.begin(1, 0);
        Check.due(3, "add(2, 0, '.')", () -> ledger.add(2, 0, '.'));
        Check.due(6, "add(3, 1, '-')", () -> ledger.add(3, 1, '-'));
        Check.due(11, "add(0, 3, '+')", () -> ledger.add(0, 3, '+'));
        ledger.word(0, 1, '.');
        Check.due(15, "add(40, 0, 'n')", () -> ledger.add(40, 0, 'n'));
        Check.due(25, "add(999999999, 0, '.')", () -> ledger.add(999999999, 0, '.'));
        Check.due(38, "add(100000000, 3, '-')", () -> ledger.add(100000000, 3, '-'));
        Check.due("1.2-03+0000.a40.999999999-000100000000", "the draft", () -> Check.draft(ledger));
    }

    private static void promise3AddRefused() {
        Releaseledger empty = new Releaseledger();
        Releaseledger ledger = Check.holding("1", "2-a");
        Check.write(ledger, "3.4");
        for (int number : new int[] {-1, 1000000000, Integer.MIN_VALUE, Integer.MAX_VALUE}) {
            Check.refused(Check.ARGUMENT, ledger, "add(" + number + ", 0, '.')", () -> ledger.add(number, 0, '.'));
        }
        for (int zeros : WRONG_ZEROS) {
            Check.refused(Check.ARGUMENT, ledger, "add(1, " + zeros + ", '.')", () -> ledger.add(1, zeros, '.'));
        }
        for (char how : WRONG_WAYS) {
            Check.refused(Check.ARGUMENT, ledger, "add(1, 0, " + (int) how + ")", () -> ledger.add(1, 0, how));
            Check.refused(Check.ARGUMENT, empty, "add(1, 0, " + (int) how + ") to none", () -> empty.add(1, 0, how));
        }
        for (char how : "n.-+".toCharArray()) {
            Check.refused(Check.STATE, empty, "add(1, 0, '" + how + "') to none", () -> empty.add(1, 0, how));
        }
        Check.refused(Check.ARGUMENT, empty, "add(-1, 0, '.') to none", () -> empty.add(-1, 0, '.'));
        Check.refused(Check.ARGUMENT, empty, "add(1, 4, '.') to none", () -> empty.add(1, 4, '.'));
    }

    private static void promise3AddInRows() {
        addedTo("1", ".-");
        addedTo("1a", "n.-");
        addedTo("1.a", "n.-");
        addedTo("1-2", ".-+");
        addedTo("1-a", "n.-+");
        addedTo("1-a-b", "n.-+");
        addedTo("1-a+2", ".-+");
        addedTo("1-a+b", "n.-+");
        addedTo("1-a+b-c+d", "n.-+");
        addedTo("1-a0", ".-+");
    }

    private static void addedTo(String draft, String ways) {
        for (char how : "n.-+".toCharArray()) {
            Releaseledger ledger = new Releaseledger();
            Check.write(ledger, draft);
            if (ways.indexOf(how) < 0) {
                Check.refused(Check.STATE, ledger, draft + " add '" + how + "'", () -> ledger.add(5, 0, how));
                continue;
            }
            String text = draft + (how == 'n' ? "" : how) + "05";
            Check.due(text.length(), draft + " add '" + how + "'", () -> ledger.add(5, 1, how));
            Check.due(text, "the draft " + text, () -> Check.draft(ledger));
        }
    }

    private static final String FIFTY = "999999.999999999.999999999.999999999.999999999.aaa";

    private static void promise3AddRoom() {
        String fifty = FIFTY;
        roomToAdd(fifty, 999999999, 0, '.', true);
        roomToAdd(fifty, 99999999, 1, '.', true);
        roomToAdd(fifty, 999999999, 1, '.', false);
        roomToAdd(fifty, 999999999, 1, 'n', true);
        roomToAdd(fifty, 999999999, 2, 'n', false);
        roomToAdd(fifty, 9999999, 3, 'n', true);
        roomToAdd(fifty, 99999999, 3, 'n', false);
        roomToAdd(fifty + ".999999999", 0, 0, '.', false);
        roomToAdd(fifty + ".aaaaa.aa", 0, 0, 'n', true);
        roomToAdd(fifty + ".aaaaa.aaa", 0, 0, 'n', false);
    }

    private static void roomToAdd(String draft, int number, int zeros, char how, boolean fits) {
        Releaseledger ledger = new Releaseledger();
        Check.write(ledger, draft);
        String what = draft + " add(" + number + ", " + zeros + ", '" + how + "')";
        if (!fits) {
            Check.refused(Check.STATE, ledger, what, () -> ledger.add(number, zeros, how));
            return;
        }
        String text = draft + (how == 'n' ? "" : how) + "0".repeat(zeros) + number;
        Check.due(text.length(), what, () -> ledger.add(number, zeros, how));
        Check.due(text, "the draft behind " + what, () -> Check.draft(ledger));
    }

    private static void promise4Word() {
        Releaseledger ledger = new Releaseledger();
        ledger.begin(1, 0);
        Check.due(2, "word(0, 1, 'n')", () -> ledger.word(0, 1, 'n'));
        Check.due(5, "word(27, 2, '.')", () -> ledger.word(27, 2, '.'));
        Check.due(11, "word(51, 5, '-')", () -> ledger.word(51, 5, '-'));
        Check.due(15, "word(25, 3, '+')", () -> ledger.word(25, 3, '+'));
        Check.due(20, "word(-1, 4, '+')", () -> ledger.word(-1, 4, '+'));
        Check.due("1a.Ba-Zaaaa+zaa+xMRK", "the draft", () -> Check.draft(ledger));
    }

    private static void promise4WordLetters() {
        worded(0, "aaaaa");
        worded(25, "zaaaa");
        worded(26, "Aaaaa");
        worded(51, "Zaaaa");
        worded(52, "abaaa");
        worded(52 * 52, "aabaa");
        worded(52 * 52 * 52, "aaaba");
        worded(52 * 52 * 52 * 52, "aaaab");
        worded(380204031, "ZZZZZ");
        worded(380204032, "aaaaa");
        worded(Integer.MIN_VALUE, "aaaaa");
        worded(Integer.MIN_VALUE + 26, "Aaaaa");
        worded(Integer.MAX_VALUE, "xMRKH");
        worded(-1, "xMRKH");
    }

    private static void worded(int code, String word) {
        for (int letters = 1; letters <= 5; letters++) {
            Releaseledger ledger = new Releaseledger();
            ledger.begin(1, 0);
            ledger.word(code, letters, '.');
            Check.due("1." + word.substring(0, letters), "word(" + code + ", " + letters + ", '.')",
                    () -> Check.draft(ledger));
        }
    }

    private static void promise4WordRefused() {
        Releaseledger empty = new Releaseledger();
        Releaseledger ledger = Check.holding("1", "2-a");
        Check.write(ledger, "3.4");
        for (int letters : new int[] {0, -1, 6, Integer.MIN_VALUE, Integer.MAX_VALUE}) {
            Check.refused(Check.ARGUMENT, ledger, "word of " + letters, () -> ledger.word(1, letters, '.'));
            Check.refused(Check.ARGUMENT, empty, "word of " + letters + " to none", () -> empty.word(1, letters, '.'));
        }
        for (char how : WRONG_WAYS) {
            Check.refused(Check.ARGUMENT, ledger, "word(1, 1, " + (int) how + ")", () -> ledger.word(1, 1, how));
            Check.refused(Check.ARGUMENT, empty, "word(1, 1, " + (int) how + ") to none", () -> empty.word(1, 1, how));
        }
        for (char how : "n.-+".toCharArray()) {
            Check.refused(Check.STATE, empty, "word(1, 1, '" + how + "') to none", () -> empty.word(1, 1, how));
        }
    }

    private static void promise4WordInRows() {
        wordedTo("1", "n.-");
        wordedTo("1a", ".-");
        wordedTo("1Z", ".-");
        wordedTo("1-2", "n.-+");
        wordedTo("1-a", ".-+");
        wordedTo("1-a+2", "n.-+");
        wordedTo("1-a+9", "n.-+");
        wordedTo("1-a+A", ".-+");
        wordedTo("1-a+z", ".-+");
        wordedTo("1-a+b-c+0", "n.-+");
    }

    private static void wordedTo(String draft, String ways) {
        for (char how : "n.-+".toCharArray()) {
            Releaseledger ledger = new Releaseledger();
            Check.write(ledger, draft);
            if (ways.indexOf(how) < 0) {
                Check.refused(Check.STATE, ledger, draft + " word '" + how + "'", () -> ledger.word(5, 1, how));
                continue;
            }
            String text = draft + (how == 'n' ? "" : how) + "fa";
            Check.due(text.length(), draft + " word '" + how + "'", () -> ledger.word(5, 2, how));
            Check.due(text, "the draft " + text, () -> Check.draft(ledger));
        }
    }

    private static void promise4WordRoom() {
        String fiftyFive = FIFTY + ".9999";
        roomToWord(fiftyFive, "aaaa", '.', true);
        roomToWord(fiftyFive, "aaaaa", '.', false);
        roomToWord(fiftyFive, "aaaaa", 'n', true);
        roomToWord(FIFTY + ".99999", "aaaaa", 'n', false);
        roomToWord(FIFTY + ".99999", "aaaa", 'n', true);
        roomToWord(FIFTY + ".99999999", "a", 'n', true);
        roomToWord(FIFTY + ".99999999", "a", '.', false);
        roomToWord(FIFTY + ".999999999", "a", 'n', false);
    }

    private static void roomToWord(String draft, String word, char how, boolean fits) {
        Releaseledger ledger = new Releaseledger();
        Check.write(ledger, draft);
        String what = draft + " word(" + word + ", '" + how + "')";
        if (!fits) {
            Check.refused(Check.STATE, ledger, what, () -> ledger.word(0, word.length(), how));
            return;
        }
        String text = draft + (how == 'n' ? "" : how) + word;
        Check.due(text.length(), what, () -> ledger.word(0, word.length(), how));
        Check.due(text, "the draft behind " + what, () -> Check.draft(ledger));
    }

    private static void promise5Drop() {
        Releaseledger ledger = Check.holding("1", "2-a");
        Check.due(0, "drop() of none", ledger::drop);
        Check.write(ledger, "3.4-ab");
        Check.due(6, "drop()", ledger::drop);
        Check.due("", "the dropped draft", () -> Check.draft(ledger));
        Check.due(0, "drop() again", ledger::drop);
        Check.due("1", "a slot behind drop()", () -> Check.told(ledger, 0));
        Check.refused(Check.STATE, ledger, "add behind drop()", () -> ledger.add(1, 0, '.'));
        Check.refused(Check.ARGUMENT, ledger, "parse behind drop()", () -> ledger.parse(0));
    }

    private static void promise6Sign() {
        Releaseledger ledger = new Releaseledger();
        Check.refused(Check.SLOT, ledger, "sign(0) of none", () -> ledger.sign(0));
        Check.refused(Check.SLOT, ledger, "sign(-1) of none", () -> ledger.sign(-1));
        String draft = "12.a3-B+0";
        Check.write(ledger, draft);
        for (int place = 0; place < draft.length(); place++) {
            int each = place;
            Check.due(draft.charAt(place), "sign(" + place + ")", () -> ledger.sign(each));
        }
        for (int place : new int[] {-1, draft.length(), 59, 60, Integer.MIN_VALUE, Integer.MAX_VALUE}) {
            Check.refused(Check.SLOT, ledger, "sign(" + place + ")", () -> ledger.sign(place));
        }
        Check.write(ledger, FIFTY + ".aaaaa.999");
        Check.due('9', "sign(59)", () -> ledger.sign(59));
        Check.refused(Check.SLOT, ledger, "sign(60)", () -> ledger.sign(60));
        ledger.begin(7, 0);
        Check.refused(Check.SLOT, ledger, "sign(1) behind begin", () -> ledger.sign(1));
    }
}
