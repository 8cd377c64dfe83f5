/**
 * Versions of modules, ordered as java.lang.module.ModuleDescriptor.Version documents it: a draft
 * that is put together of numbers and words, and eight slots with a version each.
 *
 * <p>All rows are made once, with the ledger: a call fills the spare version and exchanges it for
 * the one in a slot, so that no call makes an object.
 */
public final class Releaseledger {
    private static final int SLOTS = 8;
    private static final int MOST_SIGNS = 60;

    private static final int MOST_FIRST_NUMBER = 999999;
    private static final int MOST_NUMBER = 999999999;
    private static final int MOST_NUMBER_BEHIND = 999;
    private static final int MOST_ZEROS = 3;
    private static final int HIGHEST_SCALE = 100000000;

    private static final int MOST_LETTERS = 5;
    private static final int ALPHABET = 26;
    private static final int LETTER_KINDS = 52;
    private static final int WITHOUT_SIGN_BIT = 0x7fffffff;

    private static final int ROWS = 3;
    private static final int NUMBER_ROW = 0;
    private static final int EARLY_ROW = 1;
    private static final int BUILD_ROW = 2;
    private static final int NO_ROW = -1;

    private static final int JOINT = 0;
    private static final int DIGIT = 1;
    private static final int LETTER = 2;

    private static final char NOTHING_BETWEEN = 'n';
    private static final char POINT = '.';
    private static final char DASH = '-';
    private static final char PLUS = '+';

    private final Text draft = new Text();
    private final Version[] slots = new Version[SLOTS];
    private final Version[] sorted = new Version[SLOTS];
    private final int[] slotsInOrder = new int[SLOTS];
    private final int[] orders = new int[SLOTS * SLOTS];
    private Version spare = new Version();

    public Releaseledger() {
        for (int slot = 0; slot < SLOTS; slot++) {
            slots[slot] = new Version();
        }
    }

    // ---- the draft

    public int begin(int number, int zeros) throws IllegalArgumentException {
        checkNumber(number, 0, MOST_FIRST_NUMBER);
        checkZeros(zeros);
        draft.clear();
        draft.putNumber(number, zeros);
        return draft.length();
    }

    public int add(int number, int zeros, char how) throws IllegalArgumentException, IllegalStateException {
        checkNumber(number, 0, MOST_NUMBER);
        checkZeros(zeros);
        checkWay(how);
        checkJoin(how, DIGIT, zeros + digitsOf(number));
        putJoint(how);
        draft.putNumber(number, zeros);
        return draft.length();
    }

    public int word(int code, int letters, char how) throws IllegalArgumentException, IllegalStateException {
        if (letters < 1 || letters > MOST_LETTERS) {
            throw new IllegalArgumentException("a word has 1 to 5 letters");
        }
        checkWay(how);
        checkJoin(how, LETTER, letters);
        putJoint(how);
        draft.putWord(code, letters);
        return draft.length();
    }

    public int drop() {
        int had = draft.length();
        draft.clear();
        return had;
    }

    public char sign(int place) throws IndexOutOfBoundsException {
        checkPlace(draft, place);
        return draft.signAt(place);
    }

    // ---- versions

    public int parse(int slot) throws IndexOutOfBoundsException, IllegalArgumentException {
        checkSlot(slot);
        if (draft.length() == 0) {
            throw new IllegalArgumentException("the draft is empty");
        }
        spare.tell(draft);
        spare.readTokens();
        return exchangeSpare(slot);
    }

    public int triple(int slot, int first, int second, int third)
            throws IndexOutOfBoundsException, IllegalArgumentException {
        checkSlot(slot);
        checkNumber(first, 0, MOST_FIRST_NUMBER);
        checkNumber(second, 0, MOST_FIRST_NUMBER);
        checkNumber(third, 0, MOST_FIRST_NUMBER);
        spare.told.clear();
        spare.told.putNumber(first, 0);
        spare.told.put(POINT);
        spare.told.putNumber(second, 0);
        spare.told.put(POINT);
        spare.told.putNumber(third, 0);
        spare.readTokens();
        return exchangeSpare(slot);
    }

    public int copy(int slot, int to) throws IndexOutOfBoundsException {
        Version version = versionIn(slot);
        checkSlot(to);
        parseAnew(version);
        return exchangeSpare(to);
    }

    public int size(int slot) throws IndexOutOfBoundsException {
        return versionIn(slot).told.length();
    }

    public char text(int slot, int place) throws IndexOutOfBoundsException {
        Version version = versionIn(slot);
        checkPlace(version.told, place);
        return version.told.signAt(place);
    }

    public int tokens(int slot, int row) throws IndexOutOfBoundsException, IllegalArgumentException {
        Version version = versionIn(slot);
        checkRow(row);
        return version.tokensIn(row);
    }

    public int token(int slot, int row, int place) throws IndexOutOfBoundsException, IllegalArgumentException {
        Version version = versionIn(slot);
        checkRow(row);
        if (place < 0 || place >= version.tokensIn(row)) {
            throw new IndexOutOfBoundsException("the row has no such place");
        }
        return version.sizeAt(row, place);
    }

    // ---- order

    public int compare(int slot, int other) throws IndexOutOfBoundsException {
        return versionIn(slot).orderTo(versionIn(other));
    }

    public boolean isSame(int slot, int other) throws IndexOutOfBoundsException {
        return versionIn(slot).orderTo(versionIn(other)) == 0;
    }

    public int apart(int slot, int other) throws IndexOutOfBoundsException {
        return versionIn(slot).tellingRow(versionIn(other));
    }

    public int rank(int slot) throws IndexOutOfBoundsException {
        Version version = versionIn(slot);
        int less = 0;
        for (int each = 0; each < SLOTS; each++) {
            if (slots[each].orderTo(version) < 0) {
                less++;
            }
        }
        return less;
    }

    public int at(int place) throws IndexOutOfBoundsException {
        if (place < 0 || place >= SLOTS) {
            throw new IndexOutOfBoundsException("the places are 0 to 7");
        }
        orderSlots();
        return slotsInOrder[place];
    }

    public int sort() {
        orderSlots();
        int moved = 0;
        for (int place = 0; place < SLOTS; place++) {
            sorted[place] = versionIn(slotsInOrder[place]);
            if (slotsInOrder[place] != place) {
                moved++;
            }
        }
        for (int place = 0; place < SLOTS; place++) {
            slots[place] = sorted[place];
        }
        return moved;
    }

    public int between(int low, int high) throws IndexOutOfBoundsException {
        Version least = versionIn(low);
        Version bound = versionIn(high);
        int inside = 0;
        for (int each = 0; each < SLOTS; each++) {
            if (slots[each].orderTo(least) >= 0 && slots[each].orderTo(bound) < 0) {
                inside++;
            }
        }
        return inside;
    }

    // ---- what is put behind

    public boolean zero(int slot, int to) throws IndexOutOfBoundsException, IllegalStateException {
        Version without = versionIn(slot);
        checkSlot(to);
        checkRoom(without.told, 1 + digitsOf(0));
        parseWithNumberBehind(without, POINT, 0);
        boolean isSameAsWithout = spare.orderTo(without) == 0;
        exchangeSpare(to);
        return isSameAsWithout;
    }

    public boolean longer(int slot, int number, int to)
            throws IndexOutOfBoundsException, IllegalArgumentException, IllegalStateException {
        Version without = versionIn(slot);
        checkSlot(to);
        checkNumber(number, 1, MOST_NUMBER_BEHIND);
        checkRoom(without.told, 1 + digitsOf(number));
        parseWithNumberBehind(without, POINT, number);
        boolean isGreater = spare.orderTo(without) > 0;
        exchangeSpare(to);
        return isGreater;
    }

    public boolean early(int slot, char letter, int to)
            throws IndexOutOfBoundsException, IllegalArgumentException, IllegalStateException {
        Version without = versionIn(slot);
        checkSlot(to);
        if (letter < 'a' || letter > 'z') {
            throw new IllegalArgumentException("the letters are a to z");
        }
        if (without.hasRow(EARLY_ROW)) {
            throw new IllegalStateException("the version has an early row");
        }
        checkRoom(without.told, 2);
        parseWithLetterBehind(without, letter);
        boolean isLess = spare.orderTo(without) < 0;
        exchangeSpare(to);
        return isLess;
    }

    public int built(int slot, int number, int to)
            throws IndexOutOfBoundsException, IllegalArgumentException, IllegalStateException {
        Version without = versionIn(slot);
        checkSlot(to);
        checkNumber(number, 0, MOST_NUMBER_BEHIND);
        if (!without.hasRow(EARLY_ROW) || without.hasRow(BUILD_ROW)) {
            throw new IllegalStateException("the version has no early row, or a build row");
        }
        checkRoom(without.told, 1 + digitsOf(number));
        parseWithNumberBehind(without, PLUS, number);
        int order = spare.orderTo(without);
        exchangeSpare(to);
        return order;
    }

    // ---- all of them

    public boolean isHashed(int slot) throws IndexOutOfBoundsException {
        Version version = versionIn(slot);
        parseAnew(version);
        return spare.told.hash() == version.told.hash();
    }

    public float wordShare() {
        int words = 0;
        int all = 0;
        for (int slot = 0; slot < SLOTS; slot++) {
            words += slots[slot].words();
            all += slots[slot].allTokens();
        }
        if (all == 0) {
            return 0f;
        }
        return (float) words / (float) all;
    }

    public long checksum() {
        long sum = draft.addTo(23L);
        for (int slot = 0; slot < SLOTS; slot++) {
            sum = slots[slot].told.addTo(sum);
        }
        return sum;
    }

    public boolean isTrue() {
        fillOrders();
        for (int one = 0; one < SLOTS; one++) {
            if (!isTrueOfOne(slots[one])) {
                return false;
            }
            for (int other = 0; other < SLOTS; other++) {
                if (!isTrueOfTwo(one, other)) {
                    return false;
                }
                for (int third = 0; third < SLOTS; third++) {
                    if (!isTrueOfThree(orderOf(one, other), orderOf(other, third), orderOf(one, third))) {
                        return false;
                    }
                }
            }
        }
        return true;
    }

    // ---- what a call is refused for

    private static void checkNumber(int number, int least, int most) throws IllegalArgumentException {
        if (number < least || number > most) {
            throw new IllegalArgumentException("the number is out of range");
        }
    }

    private static void checkZeros(int zeros) throws IllegalArgumentException {
        if (zeros < 0 || zeros > MOST_ZEROS) {
            throw new IllegalArgumentException("0 to 3 zeros go ahead of the digits");
        }
    }

    private static void checkWay(char how) throws IllegalArgumentException {
        if (how != NOTHING_BETWEEN && how != POINT && how != DASH && how != PLUS) {
            throw new IllegalArgumentException("there is no such way to join");
        }
    }

    private void checkJoin(char how, int kind, int signs) throws IllegalStateException {
        if (draft.length() == 0) {
            throw new IllegalStateException("the draft is empty");
        }
        if (how == NOTHING_BETWEEN && draft.lastKind() == kind) {
            throw new IllegalStateException("two tokens of one kind need a sign between");
        }
        if (how == PLUS && !draft.has(DASH)) {
            throw new IllegalStateException("a build row is told only behind an early one");
        }
        checkRoom(draft, how == NOTHING_BETWEEN ? signs : 1 + signs);
    }

    private static void checkRoom(Text text, int more) throws IllegalStateException {
        if (more > MOST_SIGNS - text.length()) {
            throw new IllegalStateException("a text has at most 60 signs");
        }
    }

    private static void checkPlace(Text text, int place) throws IndexOutOfBoundsException {
        if (place < 0 || place >= text.length()) {
            throw new IndexOutOfBoundsException("the text has no such place");
        }
    }

    private static void checkSlot(int slot) throws IndexOutOfBoundsException {
        if (slot < 0 || slot >= SLOTS) {
            throw new IndexOutOfBoundsException("the slots are 0 to 7");
        }
    }

    private static void checkRow(int row) throws IllegalArgumentException {
        if (row < 0 || row >= ROWS) {
            throw new IllegalArgumentException("the rows are 0 to 2");
        }
    }

    // ---- steps of the calls

    private Version versionIn(int slot) throws IndexOutOfBoundsException {
        checkSlot(slot);
        return slots[slot];
    }

    private void putJoint(char how) {
        if (how != NOTHING_BETWEEN) {
            draft.put(how);
        }
    }

    /** Leaves the version that was in the slot as the spare one; its rows are filled again later. */
    private int exchangeSpare(int slot) throws IndexOutOfBoundsException {
        Version before = versionIn(slot);
        int order = spare.orderTo(before);
        slots[slot] = spare;
        spare = before;
        return order;
    }

    private void parseAnew(Version version) {
        spare.tell(version.told);
        spare.readTokens();
    }

    private void parseWithNumberBehind(Version version, char joint, int number) {
        spare.tell(version.told);
        spare.told.put(joint);
        spare.told.putNumber(number, 0);
        spare.readTokens();
    }

    private void parseWithLetterBehind(Version version, char letter) {
        spare.tell(version.told);
        spare.told.put(DASH);
        spare.told.put(letter);
        spare.readTokens();
    }

    /** Goes only past greater versions, so that the lower slot of same ones stays ahead. */
    private void orderSlots() {
        for (int slot = 0; slot < SLOTS; slot++) {
            int place = slot;
            while (place > 0 && slots[slot].orderTo(versionIn(slotsInOrder[place - 1])) < 0) {
                slotsInOrder[place] = slotsInOrder[place - 1];
                place--;
            }
            slotsInOrder[place] = slot;
        }
    }

    // ---- the theorem

    /** Compares each two versions once; all threes are looked at by these orders. */
    private void fillOrders() {
        for (int one = 0; one < SLOTS; one++) {
            for (int other = 0; other < SLOTS; other++) {
                orders[one * SLOTS + other] = slots[one].orderTo(slots[other]);
            }
        }
    }

    private int orderOf(int one, int other) throws IndexOutOfBoundsException {
        checkSlot(one);
        checkSlot(other);
        return orders[one * SLOTS + other];
    }

    /** What is put behind is looked at only where the longer text can be told. */
    private boolean isTrueOfOne(Version version) {
        parseAnew(version);
        boolean holds = spare.told.isLike(version.told) && spare.orderTo(version) == 0;
        boolean hasRoom = version.told.length() + 2 <= MOST_SIGNS;
        if (hasRoom) {
            parseWithNumberBehind(version, POINT, 0);
            holds = holds && spare.orderTo(version) == 0;
            parseWithNumberBehind(version, POINT, 1);
            holds = holds && spare.orderTo(version) > 0;
        }
        if (hasRoom && !version.hasRow(EARLY_ROW)) {
            parseWithLetterBehind(version, 'a');
            holds = holds && spare.orderTo(version) < 0;
        }
        return holds;
    }

    private boolean isTrueOfTwo(int one, int other) throws IndexOutOfBoundsException {
        int order = orderOf(one, other);
        int row = versionIn(one).tellingRow(versionIn(other));
        return order == -orderOf(other, one) && (order == 0) == (row == NO_ROW);
    }

    private static boolean isTrueOfThree(int oneToOther, int otherToThird, int oneToThird) {
        if (oneToOther == 0) {
            return oneToThird == otherToThird;
        }
        return oneToOther > 0 || otherToThird >= 0 || oneToThird < 0;
    }

    // ---- signs and numbers

    private static int kindOf(char sign) {
        if (sign >= '0' && sign <= '9') {
            return DIGIT;
        }
        return sign == POINT || sign == DASH || sign == PLUS ? JOINT : LETTER;
    }

    private static int digitsOf(int number) {
        int digits = 1;
        for (int rest = number; rest >= 10; rest /= 10) {
            digits++;
        }
        return digits;
    }

    private static char letterOf(int remainder) {
        return remainder < ALPHABET ? (char) ('a' + remainder) : (char) ('A' + remainder - ALPHABET);
    }

    private static int orderOfNumbers(int one, int other) {
        if (one == other) {
            return 0;
        }
        return one < other ? -1 : 1;
    }

    /** A text of at most 60 signs. */
    private static final class Text {
        private final char[] signs = new char[MOST_SIGNS];
        private int count = 0;

        int length() {
            return count;
        }

        /** A blank stands for a place that there is not: no text has one. */
        char signAt(int place) {
            return place >= 0 && place < count ? signs[place] : ' ';
        }

        void clear() {
            count = 0;
        }

        void put(char sign) {
            if (count < MOST_SIGNS) {
                signs[count] = sign;
                count++;
            }
        }

        void putAll(Text other) {
            for (int place = 0; place < other.length(); place++) {
                put(other.signAt(place));
            }
        }

        void putNumber(int number, int zeros) {
            for (int zero = 0; zero < zeros; zero++) {
                put('0');
            }
            for (int scale = HIGHEST_SCALE; scale > 0; scale /= 10) {
                if (number >= scale || scale == 1) {
                    put((char) ('0' + number / scale % 10));
                }
            }
        }

        void putWord(int code, int letters) {
            int rest = code & WITHOUT_SIGN_BIT;
            for (int letter = 0; letter < letters; letter++) {
                put(letterOf(rest % LETTER_KINDS));
                rest /= LETTER_KINDS;
            }
        }

        int lastKind() {
            return kindOf(signAt(count - 1));
        }

        boolean has(char sign) {
            for (int place = 0; place < count; place++) {
                if (signAt(place) == sign) {
                    return true;
                }
            }
            return false;
        }

        boolean isLike(Text other) {
            if (count != other.length()) {
                return false;
            }
            for (int place = 0; place < count; place++) {
                if (signAt(place) != other.signAt(place)) {
                    return false;
                }
            }
            return true;
        }

        int hash() {
            int hash = 0;
            for (int place = 0; place < count; place++) {
                hash = 31 * hash + signAt(place);
            }
            return hash;
        }

        long addTo(long sum) {
            long more = 31L * sum + count;
            for (int place = 0; place < count; place++) {
                more = 31L * more + signAt(place);
            }
            return more;
        }
    }

    /** A text and its tokens, row by row. */
    private static final class Version {
        private final Text told = new Text();
        private final int[][] starts = new int[ROWS][MOST_SIGNS];
        /** The size of a number; of a word -1 less how many letters it has. */
        private final int[][] sizes = new int[ROWS][MOST_SIGNS];
        private final int[] counts = new int[ROWS];

        Version() {
            told.put('0');
            readTokens();
        }

        void tell(Text text) {
            told.clear();
            told.putAll(text);
        }

        void readTokens() {
            for (int row = 0; row < ROWS; row++) {
                counts[row] = 0;
            }
            int row = NUMBER_ROW;
            int kindBefore = JOINT;
            for (int place = 0; place < told.length(); place++) {
                char sign = told.signAt(place);
                int kind = kindOf(sign);
                if (kind == JOINT) {
                    row = rowBehind(row, sign);
                } else {
                    if (kind != kindBefore) {
                        openToken(row, kind, place);
                    }
                    growToken(row, kind, sign);
                }
                kindBefore = kind;
            }
        }

        private static int rowBehind(int row, char joint) {
            if (row == NUMBER_ROW && joint == DASH) {
                return EARLY_ROW;
            }
            if (row == EARLY_ROW && joint == PLUS) {
                return BUILD_ROW;
            }
            return row;
        }

        private void openToken(int row, int kind, int start) {
            int place = tokensIn(row);
            if (row >= 0 && row < ROWS && place < MOST_SIGNS) {
                starts[row][place] = start;
                sizes[row][place] = kind == DIGIT ? 0 : -1;
                counts[row]++;
            }
        }

        private void growToken(int row, int kind, char sign) {
            int last = tokensIn(row) - 1;
            if (hasToken(row, last)) {
                int size = sizes[row][last];
                sizes[row][last] = kind == DIGIT ? 10 * size + (sign - '0') : size - 1;
            }
        }

        int tokensIn(int row) {
            return row >= 0 && row < ROWS ? counts[row] : 0;
        }

        boolean hasRow(int row) {
            return tokensIn(row) > 0;
        }

        private boolean hasToken(int row, int place) {
            return row >= 0 && row < ROWS && place >= 0 && place < counts[row];
        }

        int allTokens() {
            int all = 0;
            for (int row = 0; row < ROWS; row++) {
                all += counts[row];
            }
            return all;
        }

        int words() {
            int words = 0;
            for (int row = 0; row < ROWS; row++) {
                for (int place = 0; place < counts[row]; place++) {
                    if (sizes[row][place] < 0) {
                        words++;
                    }
                }
            }
            return words;
        }

        /** Behind the end of a row this is 0: as the rows are ordered, zeros there count for nothing. */
        int sizeAt(int row, int place) {
            return hasToken(row, place) ? sizes[row][place] : 0;
        }

        private int startAt(int row, int place) {
            return hasToken(row, place) ? starts[row][place] : 0;
        }

        int orderTo(Version other) {
            for (int row = 0; row < ROWS; row++) {
                int order = orderOfRow(row, other);
                if (order != 0) {
                    return order;
                }
            }
            return 0;
        }

        int tellingRow(Version other) {
            for (int row = 0; row < ROWS; row++) {
                if (orderOfRow(row, other) != 0) {
                    return row;
                }
            }
            return NO_ROW;
        }

        private int orderOfRow(int row, Version other) {
            if (row == EARLY_ROW && hasRow(row) != other.hasRow(row)) {
                return hasRow(row) ? -1 : 1;
            }
            int longest = Math.max(tokensIn(row), other.tokensIn(row));
            for (int place = 0; place < longest; place++) {
                int mine = sizeAt(row, place);
                int others = other.sizeAt(row, place);
                int order = mine < 0 && others < 0 ? orderOfWords(row, place, other) : orderOfSizes(mine, others);
                if (order != 0) {
                    return order;
                }
            }
            return 0;
        }

        /** At least one of them is a number's, and a number is ahead of a word. */
        private static int orderOfSizes(int mine, int others) {
            if (mine < 0) {
                return 1;
            }
            return others < 0 ? -1 : orderOfNumbers(mine, others);
        }

        private int orderOfWords(int row, int place, Version other) {
            int letters = -1 - sizeAt(row, place);
            int othersLetters = -1 - other.sizeAt(row, place);
            int start = startAt(row, place);
            int othersStart = other.startAt(row, place);
            for (int letter = 0; letter < letters && letter < othersLetters; letter++) {
                int order = orderOfNumbers(told.signAt(start + letter), other.told.signAt(othersStart + letter));
                if (order != 0) {
                    return order;
                }
            }
            return orderOfNumbers(letters, othersLetters);
        }
    }
}
