/** The terms, order and texts: each sentence that names a boundary case has a test of its own. */
final class TermsEdgesTest {
    private static final String FULL = Edges.textOf(60);

    public static void main(String[] args) {
        callsOfAnObject();
        rowsOfTokens();
        orderOfTokens();
        orderOfRows();
        orderOfAll();
        whatIsPutBehind();
        textsOfTokens();
        textsOfRows();
        textsOfSixtySigns();
        draftAndSlots();
        Check.end("TermsEdgesTest");
    }

    private static void callsOfAnObject() {
        Check.sentence("an object is used for at most 512 calls after it has been made", () -> {
            Releaseledger ledger = new Releaseledger();
            for (int call = 1; call <= 511; call++) {
                ledger.triple(call % 8, call, 0, 0);
            }
            Check.due(511 % 8, "the 512th call", () -> ledger.at(7));
        });
    }

    private static void ahead(String one, String other) {
        ordered(one, other, -1);
        ordered(other, one, 1);
    }

    private static void same(String one, String other) {
        ordered(one, other, 0);
        ordered(other, one, 0);
    }

    private static void ordered(String one, String other, int order) {
        Releaseledger ledger = Check.holding("5", one, other);
        Check.due(order, "compare " + one + " with " + other, () -> ledger.compare(1, 2));
    }

    /** The same two ends of a row in each of the three rows. */
    private static void aheadInEachRow(String one, String other) {
        ahead("1." + one, "1." + other);
        ahead("1-" + one, "1-" + other);
        ahead("1-a+" + one, "1-a+" + other);
    }

    private static void sameInEachRow(String one, String other) {
        same("1." + one, "1." + other);
        same("1-" + one, "1-" + other);
        same("1-a+" + one, "1-a+" + other);
    }

    private static void rowsOfTokens() {
        Check.sentence("a version is three rows of tokens: how these are joined in a row does not count", () -> {
            same("1a", "1.a");
            same("1-2a", "1-2-a");
            same("1-2.a", "1-2-a");
            same("1-2+3a", "1-2+3+a");
            same("1-2+3.a", "1-2+3-a");
            same("1a".repeat(15), "1" + ".a.1".repeat(14) + ".a");
        });
        Check.sentence("what was parsed is told again, sign by sign, and parsed again it is the same version", () -> {
            for (String text : new String[] {"0", "0000", "1a".repeat(30), "1-a+" + "Z9".repeat(28), FULL}) {
                Releaseledger ledger = Check.holding("5", text);
                String told = Check.told(ledger, 1);
                Check.due(text, "what was parsed", () -> told);
                Check.write(ledger, told);
                Check.due(0, "parse of what is told", () -> ledger.parse(1));
                Check.due(text, "what was parsed again", () -> Check.told(ledger, 1));
            }
        });
    }

    private static void orderOfTokens() {
        Check.sentence("of two tokens at one place two numbers go by their size", () -> {
            aheadInEachRow("0", "1");
            aheadInEachRow("9", "10");
            aheadInEachRow("0009", "10");
            aheadInEachRow("999999998", "999999999");
            aheadInEachRow("0", "999999999");
            sameInEachRow("000999999999", "999999999");
            sameInEachRow("0000", "0");
        });
        Check.sentence("two words by their letters, at the first place at which they differ", () -> {
            aheadInEachRow("a", "b");
            aheadInEachRow("aaaaa", "b");
            aheadInEachRow("azzzz", "baaaa");
            aheadInEachRow("aaaaa", "aaaab");
            aheadInEachRow("aab", "ab");
            sameInEachRow("ZzZzZ", "ZzZzZ");
        });
        Check.sentence("a word that begins another one being ahead of it", () -> {
            aheadInEachRow("a", "aA");
            aheadInEachRow("Z", "ZA");
            aheadInEachRow("aaaa", "aaaaa");
        });
        Check.sentence("a number is ahead of a word", () -> {
            aheadInEachRow("999999999", "A");
            aheadInEachRow("0", "A");
            aheadInEachRow("0.0", "A");
        });
        Check.sentence("letters go by their codes, so each great one is ahead of each small one", () -> {
            String letters = "ABCDEFGHIJKLMNOPQRSTUVWXYZabcdefghijklmnopqrstuvwxyz";
            for (int place = 1; place < letters.length(); place++) {
                ahead("1" + letters.charAt(place - 1), "1" + letters.charAt(place));
            }
            aheadInEachRow("ZZZZZ", "a");
        });
    }

    private static void orderOfRows() {
        Check.sentence("row by row, the number rows first", () -> {
            ahead("1-z+z", "2-0+0");
            ahead("1-0+z", "1-1+0");
        });
        Check.sentence("a row that goes on is behind one that ends", () -> {
            ahead("1", "1.1");
            ahead("1", "1A");
            aheadInEachRow("a", "a.1");
            aheadInEachRow("a", "a1");
            aheadInEachRow("2", "2A");
            ahead("1-a", "1-a+1");
            ahead("1-a", "1-a+A");
        });
        Check.sentence("unless it goes on with nothing but zeros, which count for nothing", () -> {
            same("1", "1.0");
            same("1", "1.0.00.000.0000");
            same("0", "0" + ".0".repeat(29));
            sameInEachRow("a", "a0");
            sameInEachRow("a", "a.0.0000");
            same("1-0", "1-0-0.0");
            same("1-a+0", "1-a+0+0-0.0");
            same("1-a", "1-a+0");
            same("1-a", "1-a+0" + "+0".repeat(27));
            ahead("1", "1.0.0.1");
            ahead("1", "1.0.0A");
            aheadInEachRow("a", "a.0.1");
            aheadInEachRow("a", "a.0A");
            ahead("1-a", "1-a+0.1");
            ahead("0" + ".0".repeat(28), "0" + ".0".repeat(28) + ".1");
        });
        Check.sentence("a version with an early row is ahead of one without, if their number rows are alike", () -> {
            ahead("1-0", "1");
            ahead("1.0-zzzzz", "1");
            ahead("1-a+9", "1.00");
            ahead("0-0", "0");
            ahead("1", "1.0.1-0");
            ahead("1", "2-0");
        });
    }

    /** The first two are alike, and so are the fourth and the fifth; the full one is ahead of the one before it. */
    private static final String[] TOLD = {"1-0", "1-0+0", "1-0+A", "1", "1.0000", "1.0.A", "1A", FULL};

    private static void orderOfAll() {
        Check.sentence("this is a total order: turned about it is of the other sign", () -> {
            Releaseledger ledger = Check.holding(TOLD);
            for (int pair = 0; pair < 64; pair++) {
                int one = pair / 8;
                int other = pair % 8;
                Check.due(-ledger.compare(other, one), "compare " + one + " " + other,
                        () -> ledger.compare(one, other));
            }
        });
        Check.sentence("what is less than something less is less, alike ones cannot be told apart by a third", () -> {
            int[] ranks = {0, 0, 2, 3, 3, 5, 7, 6};
            Releaseledger ledger = Check.holding(TOLD);
            for (int pair = 0; pair < 64; pair++) {
                int one = pair / 8;
                int other = pair % 8;
                Check.due(Integer.compare(ranks[one], ranks[other]), "compare " + one + " " + other,
                        () -> ledger.compare(one, other));
            }
            Check.due(true, "isTrue()", ledger::isTrue);
        });
        Check.sentence("equals() is true just if compareTo() is 0", () -> {
            Releaseledger ledger = Check.holding(TOLD);
            for (int pair = 0; pair < 64; pair++) {
                int one = pair / 8;
                int other = pair % 8;
                Check.due(ledger.compare(one, other) == 0, "isSame " + one + " " + other,
                        () -> ledger.isSame(one, other));
            }
        });
    }

    private static void whatIsPutBehind() {
        String[] texts = {"0", "1A", "1-0", "1-a", "1-a+0", Edges.textOf(58), Edges.textOf(58, "-a"),
            Edges.textOf(58, "-a+Z")};
        Check.sentence("so a zero put behind changes nothing", () -> {
            for (String text : texts) {
                same(text, text + ".0");
            }
        });
        Check.sentence("any other number put behind leads on", () -> {
            for (String text : texts) {
                ahead(text, text + ".1");
            }
        });
        Check.sentence("and an early row leads back", () -> {
            for (String text : texts) {
                if (text.indexOf('-') < 0) {
                    ahead(text + "-0", text);
                    ahead(text + "-z", text);
                }
            }
        });
    }

    private static void sizes(String text, int row, int... sizes) {
        Releaseledger ledger = Check.holding("5", text);
        Check.due(sizes.length, "tokens of " + text + " in row " + row, () -> ledger.tokens(1, row));
        for (int place = 0; place < sizes.length; place++) {
            int each = place;
            Check.due(sizes[place], "token of " + text + " at " + place, () -> ledger.token(1, row, each));
        }
    }

    private static void textsOfTokens() {
        Check.sentence("a number is told by its digits, at most nine of them with up to three zeros ahead", () -> {
            sizes("000999999.000999999999a000100000000", 0, 999999, 999999999, -2, 100000000);
        });
        Check.sentence("a word has 1 to 5 letters, a to z or A to Z", () -> {
            sizes("1a-AzaZA+Z.zzzzz", 0, 1, -2);
            sizes("1a-AzaZA+Z.zzzzz", 1, -6);
            sizes("1a-AzaZA+Z.zzzzz", 2, -2, -6);
        });
        Check.sentence("the size of a number is that without the zeros ahead", () -> {
            sizes("0.00.000.0000", 0, 0, 0, 0, 0);
            sizes("01.0010.000100", 0, 1, 10, 100);
            sizes("1-0009+0090", 1, 9);
            sizes("1-0009+0090", 2, 90);
        });
        Check.sentence("a text begins with a number", () -> {
            for (char how : Edges.WAYS) {
                Releaseledger ledger = new Releaseledger();
                Check.refused(Check.STATE, ledger, "word first, " + how, () -> ledger.word(0, 1, how));
                Check.refused(Check.STATE, ledger, "number joined first, " + how, () -> ledger.add(1, 0, how));
                Check.due(1, "begin", () -> ledger.begin(1, 0));
            }
        });
    }

    private static void textsOfRows() {
        Check.sentence("the number row goes to the first dash, the early row from there to the first plus or the"
                + " end, the build row behind that", () -> {
            sizes("1.2", 0, 1, 2);
            sizes("1.2-3", 0, 1, 2);
            sizes("1.2-3-4.5-6", 1, 3, 4, 5, 6);
            sizes("1.2-3-4+5+6-7.8", 0, 1, 2);
            sizes("1.2-3-4+5+6-7.8", 1, 3, 4);
            sizes("1.2-3-4+5+6-7.8", 2, 5, 6, 7, 8);
        });
        Check.sentence("in the number row with a point, a dash begins the early row", () -> joins("2", ".-", ".-n"));
        Check.sentence("in the early row with a point or a dash, a plus begins the build row",
                () -> joins("2-3", ".-+", ".-+n"));
        Check.sentence("in the build row with any of the three", () -> joins("2-3+4", ".-+", ".-+n"));
        Check.sentence("a number behind a word, and a word behind a number, may be joined with nothing between", () -> {
            joins("2a", "n.-", ".-");
            joins("2-a", "n.-+", ".-+");
            joins("2-3+a", "n.-+", ".-+");
            sizes("1a2b-3c4-d5+6e.f7", 0, 1, -2, 2, -2);
            sizes("1a2b-3c4-d5+6e.f7", 1, 3, -2, 4, -2, 5);
            sizes("1a2b-3c4-d5+6e.f7", 2, 6, -2, -2, 7);
        });
        Check.sentence("so a build row is told only behind an early one", () -> {
            for (String draft : new String[] {"1", "1.2", "1a"}) {
                Releaseledger ledger = Edges.drafting(draft);
                Check.refused(Check.STATE, ledger, draft + " + number", () -> ledger.add(1, 0, '+'));
                Check.refused(Check.STATE, ledger, draft + " + word", () -> ledger.word(1, 1, '+'));
            }
        });
    }

    private static void joins(String draft, String numberWays, String wordWays) {
        for (char how : Edges.WAYS) {
            String what = draft + " joined " + how;
            Releaseledger first = Edges.drafting(draft);
            Releaseledger second = Edges.drafting(draft);
            if (numberWays.indexOf(how) >= 0) {
                Check.due(Edges.joined(draft, how, "1").length(), what + " number", () -> first.add(1, 0, how));
            } else {
                Check.refused(Check.STATE, first, what + " number", () -> first.add(1, 0, how));
            }
            if (wordWays.indexOf(how) >= 0) {
                Check.due(Edges.joined(draft, how, "b").length(), what + " word", () -> second.word(1, 1, how));
            } else {
                Check.refused(Check.STATE, second, what + " word", () -> second.word(1, 1, how));
            }
        }
    }

    private static void textsOfSixtySigns() {
        Check.sentence("a text has at most 60 signs", () -> {
            Releaseledger ledger = Edges.drafting(Edges.textOf(58));
            Check.due(60, "a point and a digit behind 58 signs", () -> ledger.add(1, 0, '.'));
            Check.taken("parse of 60 signs", () -> ledger.parse(0));
            Check.due(FULL.length(), "its size", () -> ledger.size(0));
            Check.refused(Check.STATE, ledger, "a letter behind 60 signs", () -> ledger.word(1, 1, 'n'));
            Check.refused(Check.STATE, ledger, "a point and a digit behind 60 signs", () -> ledger.add(1, 0, '.'));
            Check.refused(Check.STATE, ledger, "zero of 60 signs", () -> ledger.zero(0, 1));
        });
    }

    private static void draftAndSlots() {
        Check.sentence("there is the draft, empty at first", () -> {
            Releaseledger ledger = new Releaseledger();
            Check.refused(Check.ARGUMENT, ledger, "parse of the first draft", () -> ledger.parse(0));
            Check.due(0, "signs of the first draft", ledger::drop);
        });
        Check.sentence("the slots 0 to 7, each with a version, parsed of the text 0 at first", () -> {
            for (int slot = 0; slot < 8; slot++) {
                int each = slot;
                Releaseledger ledger = new Releaseledger();
                Check.due(1, "its size", () -> ledger.size(each));
                Check.due('0', "its sign", () -> ledger.text(each, 0));
                Check.due(1, "its numbers", () -> ledger.tokens(each, 0));
                Check.due(0, "its number", () -> ledger.token(each, 0, 0));
                Check.due(0, "its early row", () -> ledger.tokens(each, 1));
                Check.due(0, "its build row", () -> ledger.tokens(each, 2));
            }
        });
    }
}
