import java.lang.module.ModuleDescriptor.Version;
import java.util.ArrayList;
import java.util.List;
import java.util.regex.Matcher;
import java.util.regex.Pattern;

/**
 * Long runs of calls on the ledger and on a model that keeps texts and asks the language's own
 * ModuleDescriptor.Version, with arguments from a fixed row of numbers: inputs, edges and wrong ones.
 */
final class AgainstJavaTest {
    private static final int RUNS = 900;
    /** What is asked of one object: the document promises nothing of later calls. */
    private static final int CALLS = 512;
    private static final int MOST_CALLS_AT_ONCE = 4;
    private static final Pattern TOKEN = Pattern.compile("[0-9]+|[A-Za-z]+");

    private static long seed = 20261118L;

    private final Releaseledger ledger = new Releaseledger();
    private final String[] slots = {"0", "0", "0", "0", "0", "0", "0", "0"};
    private String draft = "";
    private int calls = 0;

    public static void main(String[] args) {
        for (int run = 0; run < RUNS; run++) {
            AgainstJavaTest each = new AgainstJavaTest();
            int wrongs = pick(12) == 0 ? 3 : 25;
            while (each.calls + MOST_CALLS_AT_ONCE < CALLS) {
                each.oneCall(pick(27), wrongs);
            }
            while (each.calls < CALLS) {
                each.callChecksum();
            }
        }
        Check.end("AgainstJavaTest");
    }

    private static int pick(int bound) {
        seed = seed * 6364136223846793005L + 1442695040888963407L;
        return (int) ((seed >>> 33) % bound);
    }

    private static int slot(int wrongs) {
        return pick(wrongs) == 0 ? new int[] {-1, 8, 9, Integer.MIN_VALUE, Integer.MAX_VALUE}[pick(5)] : pick(8);
    }

    /** Small numbers are the likely ones, so that rows often begin alike. */
    private static int number(int most, int wrongs) {
        if (pick(wrongs) == 0) {
            return new int[] {-1, most + 1, Integer.MIN_VALUE, Integer.MAX_VALUE, 0, most}[pick(6)];
        }
        return pick(3) > 0 ? pick(3) : pick(2) == 0 ? pick(100) : pick(Math.min(most, 2000000000) + 1);
    }

    private static int zeros(int wrongs) {
        return pick(wrongs) == 0 ? new int[] {-1, 4, Integer.MIN_VALUE}[pick(3)] : pick(3) == 0 ? pick(4) : 0;
    }

    private static char how(int wrongs) {
        return pick(wrongs) == 0 ? "N, 0a/*\0".charAt(pick(8)) : "n.-+".charAt(pick(4));
    }

    private static int code() {
        return pick(2) == 0 ? pick(2) + 26 * pick(2) + 52 * pick(2) : (int) (seed >>> 20);
    }

    private void oneCall(int which, int wrongs) {
        int one = slot(wrongs);
        int two = slot(wrongs);
        switch (which) {
            case 0, 1 -> callBegin(number(999999, wrongs), zeros(wrongs));
            case 2, 3, 4 -> callAdd(number(999999999, wrongs), zeros(wrongs), how(wrongs));
            case 5, 6, 7 -> callWord(code(), pick(wrongs) == 0 ? pick(3) * 6 - 6 : 1 + pick(1 + pick(5)), how(wrongs));
            case 8 -> callDropOrSign(wrongs);
            case 9, 10, 11 -> callParse(one);
            case 12 -> callTriple(one, number(999999, wrongs), number(999999, wrongs), number(999999, wrongs));
            case 13 -> callCopy(one, two);
            case 14 -> callText(one, pick(wrongs) == 0 ? -1 : pick(62));
            case 15 -> callTokens(one, pick(wrongs) == 0 ? -1 : pick(4), pick(wrongs) == 0 ? -1 : pick(8));
            case 16, 17 -> callCompare(one, two);
            case 18 -> callRankAndAt(one, two);
            case 19 -> callBetween(one, two);
            case 20 -> callSortOrWhole();
            case 21 -> callZero(one, two);
            case 22 -> callLonger(one, number(999, wrongs), two);
            case 23, 24 -> callEarly(one, (char) ((pick(wrongs) == 0 ? 'A' : 'a') + pick(27)), two);
            default -> callBuilt(one, number(999, wrongs), two);
        }
    }

    private void same(String what, Check.Call model, Check.Call call) {
        Object due;
        try {
            due = model.answer();
        } catch (RuntimeException e) {
            due = e.getClass();
        }
        calls++;
        Check.due(due, what, call);
    }

    private static boolean noSlot(int slot) {
        return slot < 0 || slot > 7;
    }

    private static void require(boolean holds, RuntimeException otherwise) {
        if (!holds) {
            throw otherwise;
        }
    }

    private static void slotsAre(int... asked) {
        for (int slot : asked) {
            require(!noSlot(slot), new IndexOutOfBoundsException());
        }
    }

    private static void argument(boolean holds) {
        require(holds, new IllegalArgumentException());
    }

    private static void state(boolean holds) {
        require(holds, new IllegalStateException());
    }

    private static int order(String one, String other) {
        return Integer.signum(Version.parse(one).compareTo(Version.parse(other)));
    }

    private int put(int to, String text) {
        int order = order(text, slots[to]);
        slots[to] = text;
        return order;
    }

    private void callBegin(int number, int zeros) {
        same("begin(" + number + ", " + zeros + ")", () -> {
            argument(number >= 0 && number <= 999999 && zeros >= 0 && zeros <= 3);
            draft = "0".repeat(zeros) + number;
            return draft.length();
        }, () -> ledger.begin(number, zeros));
    }

    private void callAdd(int number, int zeros, char how) {
        same("add(" + number + ", " + zeros + ", '" + how + "') to " + draft, () -> {
            argument(number >= 0 && number <= 999999999 && zeros >= 0 && zeros <= 3);
            return join("0".repeat(zeros) + number, how);
        }, () -> ledger.add(number, zeros, how));
    }

    private void callWord(int code, int letters, char how) {
        same("word(" + code + ", " + letters + ", '" + how + "') to " + draft, () -> {
            argument(letters >= 1 && letters <= 5);
            StringBuilder word = new StringBuilder();
            int rest = code & Integer.MAX_VALUE;
            for (int letter = 0; letter < letters; letter++) {
                word.append("abcdefghijklmnopqrstuvwxyzABCDEFGHIJKLMNOPQRSTUVWXYZ".charAt(rest % 52));
                rest /= 52;
            }
            return join(word.toString(), how);
        }, () -> ledger.word(code, letters, how));
    }

    private int join(String token, char how) {
        argument("n.-+".indexOf(how) >= 0);
        state(!draft.isEmpty());
        boolean numberIsLast = Character.isDigit(draft.charAt(draft.length() - 1));
        state(how != 'n' || numberIsLast != Character.isDigit(token.charAt(0)));
        state(how != '+' || draft.indexOf('-') > 0);
        String joined = draft + (how == 'n' ? "" : how) + token;
        state(joined.length() <= 60);
        draft = joined;
        return draft.length();
    }

    private void callDropOrSign(int wrongs) {
        if (pick(6) == 0) {
            same("drop()", () -> {
                int had = draft.length();
                draft = "";
                return had;
            }, ledger::drop);
            return;
        }
        int place = pick(wrongs) == 0 ? -1 : pick(62);
        same("sign(" + place + ")", () -> {
            require(place >= 0 && place < draft.length(), new IndexOutOfBoundsException());
            return draft.charAt(place);
        }, () -> ledger.sign(place));
    }

    private void callParse(int slot) {
        same("parse(" + slot + ") of " + draft, () -> {
            slotsAre(slot);
            argument(!draft.isEmpty());
            return put(slot, draft);
        }, () -> ledger.parse(slot));
    }

    private void callTriple(int slot, int first, int second, int third) {
        same("triple(" + slot + ", " + first + ", " + second + ", " + third + ")", () -> {
            slotsAre(slot);
            argument(Math.min(first, Math.min(second, third)) >= 0);
            argument(Math.max(first, Math.max(second, third)) <= 999999);
            return put(slot, first + "." + second + "." + third);
        }, () -> ledger.triple(slot, first, second, third));
    }

    private void callCopy(int slot, int to) {
        same("copy(" + slot + ", " + to + ")", () -> {
            slotsAre(slot, to);
            return put(to, slots[slot]);
        }, () -> ledger.copy(slot, to));
    }

    private void callText(int slot, int place) {
        same("size(" + slot + ")", () -> {
            slotsAre(slot);
            return slots[slot].length();
        }, () -> ledger.size(slot));
        same("text(" + slot + ", " + place + ")", () -> {
            slotsAre(slot);
            require(place >= 0 && place < slots[slot].length(), new IndexOutOfBoundsException());
            return slots[slot].charAt(place);
        }, () -> ledger.text(slot, place));
    }

    private List<String> row(int slot, int row) {
        slotsAre(slot);
        argument(row >= 0 && row <= 2);
        String[] numberAndRest = slots[slot].split("-", 2);
        String[] earlyAndBuild = (numberAndRest.length < 2 ? "" : numberAndRest[1]).split("\\+", 2);
        String text = row == 0 ? numberAndRest[0] : row <= earlyAndBuild.length ? earlyAndBuild[row - 1] : "";
        List<String> tokens = new ArrayList<>();
        Matcher matcher = TOKEN.matcher(text);
        while (matcher.find()) {
            tokens.add(matcher.group());
        }
        return tokens;
    }

    private void callTokens(int slot, int row, int place) {
        same("tokens(" + slot + ", " + row + ")", () -> row(slot, row).size(), () -> ledger.tokens(slot, row));
        same("token(" + slot + ", " + row + ", " + place + ")", () -> {
            List<String> tokens = row(slot, row);
            require(place >= 0 && place < tokens.size(), new IndexOutOfBoundsException());
            String token = tokens.get(place);
            return Character.isDigit(token.charAt(0)) ? Integer.parseInt(token) : -1 - token.length();
        }, () -> ledger.token(slot, row, place));
    }

    private void callCompare(int slot, int other) {
        String what = "(" + slot + ", " + other + ")";
        same("compare" + what, () -> {
            slotsAre(slot, other);
            return order(slots[slot], slots[other]);
        }, () -> ledger.compare(slot, other));
        same("isSame" + what, () -> {
            slotsAre(slot, other);
            return Version.parse(slots[slot]).equals(Version.parse(slots[other]));
        }, () -> ledger.isSame(slot, other));
        same("apart" + what, () -> {
            slotsAre(slot, other);
            return telling(slots[slot], slots[other]);
        }, () -> ledger.apart(slot, other));
    }

    private static int telling(String one, String other) {
        if (order(one.split("-")[0], other.split("-")[0]) != 0) {
            return 0;
        }
        if (order(one.split("\\+")[0], other.split("\\+")[0]) != 0) {
            return 1;
        }
        return order(one, other) != 0 ? 2 : -1;
    }

    private int less(String text) {
        int less = 0;
        for (String each : slots) {
            less += order(each, text) < 0 ? 1 : 0;
        }
        return less;
    }

    private List<Integer> inOrder() {
        List<Integer> order = new ArrayList<>(List.of(0, 1, 2, 3, 4, 5, 6, 7));
        order.sort((one, other) -> order(slots[one], slots[other]));
        return order;
    }

    private void callRankAndAt(int slot, int place) {
        same("rank(" + slot + ")", () -> {
            slotsAre(slot);
            return less(slots[slot]);
        }, () -> ledger.rank(slot));
        same("at(" + place + ")", () -> {
            slotsAre(place);
            return inOrder().get(place);
        }, () -> ledger.at(place));
    }

    private void callBetween(int low, int high) {
        same("between(" + low + ", " + high + ")", () -> {
            slotsAre(low, high);
            int inside = 0;
            for (String each : slots) {
                inside += order(each, slots[low]) >= 0 && order(each, slots[high]) < 0 ? 1 : 0;
            }
            return inside;
        }, () -> ledger.between(low, high));
    }

    private void callSortOrWhole() {
        if (pick(4) == 0) {
            same("sort()", this::sorted, ledger::sort);
            callChecksum();
            return;
        }
        int slot = pick(8);
        same("isHashed(" + slot + ")", () -> true, () -> ledger.isHashed(slot));
        same("isTrue()", () -> true, ledger::isTrue);
        same("wordShare()", this::share, ledger::wordShare);
        callChecksum();
    }

    /** Tells of the whole state by one call. */
    private void callChecksum() {
        same("checksum()", this::sum, ledger::checksum);
    }

    private int sorted() {
        List<Integer> order = inOrder();
        String[] before = slots.clone();
        int moved = 0;
        for (int place = 0; place < 8; place++) {
            slots[place] = before[order.get(place)];
            moved += order.get(place) == place ? 0 : 1;
        }
        return moved;
    }

    private float share() {
        int words = 0;
        int all = 0;
        for (String each : slots) {
            Matcher matcher = TOKEN.matcher(each);
            while (matcher.find()) {
                all++;
                words += Character.isDigit(matcher.group().charAt(0)) ? 0 : 1;
            }
        }
        return (float) words / (float) all;
    }

    private long sum() {
        long sum = 31 * 23L + draft.length();
        for (char sign : draft.toCharArray()) {
            sum = 31 * sum + sign;
        }
        for (String each : slots) {
            sum = 31 * sum + each.length();
            for (char sign : each.toCharArray()) {
                sum = 31 * sum + sign;
            }
        }
        return sum;
    }

    private void callZero(int slot, int to) {
        same("zero(" + slot + ", " + to + ")", () -> {
            slotsAre(slot, to);
            String text = slots[slot] + ".0";
            state(text.length() <= 60);
            boolean isSame = Version.parse(text).equals(Version.parse(slots[slot]));
            slots[to] = text;
            return isSame;
        }, () -> ledger.zero(slot, to));
    }

    private void callLonger(int slot, int number, int to) {
        same("longer(" + slot + ", " + number + ", " + to + ")", () -> {
            slotsAre(slot, to);
            argument(number >= 1 && number <= 999);
            String text = slots[slot] + "." + number;
            state(text.length() <= 60);
            boolean isGreater = order(text, slots[slot]) > 0;
            slots[to] = text;
            return isGreater;
        }, () -> ledger.longer(slot, number, to));
    }

    private void callEarly(int slot, char letter, int to) {
        same("early(" + slot + ", '" + letter + "', " + to + ")", () -> {
            slotsAre(slot, to);
            argument(letter >= 'a' && letter <= 'z');
            String text = slots[slot] + "-" + letter;
            state(slots[slot].indexOf('-') < 0 && text.length() <= 60);
            boolean isLess = order(text, slots[slot]) < 0;
            slots[to] = text;
            return isLess;
        }, () -> ledger.early(slot, letter, to));
    }

    private void callBuilt(int slot, int number, int to) {
        same("built(" + slot + ", " + number + ", " + to + ")", () -> {
            slotsAre(slot, to);
            argument(number >= 0 && number <= 999);
            String text = slots[slot] + "+" + number;
            state(slots[slot].indexOf('-') > 0 && slots[slot].indexOf('+') < 0 && text.length() <= 60);
            int order = order(text, slots[slot]);
            slots[to] = text;
            return order;
        }, () -> ledger.built(slot, number, to));
    }
}
