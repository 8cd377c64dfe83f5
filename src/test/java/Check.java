/** What the tests share: calls whose answers are looked at, and a count of the wrong ones. */
final class Check {
    static final Class<?> SLOT = IndexOutOfBoundsException.class;
    static final Class<?> ARGUMENT = IllegalArgumentException.class;
    static final Class<?> STATE = IllegalStateException.class;

    interface Call {
        Object answer();
    }

    private static int looked = 0;
    private static int wrong = 0;

    private Check() {
    }

    static void due(Object due, String what, Call call) {
        Object got;
        try {
            got = call.answer();
        } catch (RuntimeException e) {
            got = e.getClass();
        }
        looked++;
        if (!due.equals(got)) {
            wrong++;
            System.out.println(what + " answered " + got + ", due is " + due);
        }
    }

    static void taken(String what, Call call) {
        due(true, what + " is taken", () -> {
            call.answer();
            return true;
        });
    }

    /** A call that throws changes nothing: all that is kept is the same behind it. */
    static void refused(Class<?> due, Releaseledger ledger, String what, Call call) {
        String before = kept(ledger);
        due(due, what, call);
        due(before, "what is kept behind the refused " + what, () -> kept(ledger));
    }

    /** By two calls alone: an object is used for at most 512 calls, and a test asks for no more. */
    private static String kept(Releaseledger ledger) {
        return ledger.checksum() + " " + ledger.wordShare();
    }

    /** One sentence of the document: a broken one is named, also where the test of it cannot go on. */
    static void sentence(String sentence, Runnable test) {
        int before = wrong;
        try {
            test.run();
        } catch (RuntimeException e) {
            wrong++;
            System.out.println("its test ended with " + e);
        }
        if (wrong > before) {
            System.out.println("broken: " + sentence);
        }
    }

    static String state(Releaseledger ledger) {
        StringBuilder state = new StringBuilder();
        state.append(draft(ledger)).append(" sum ").append(ledger.checksum());
        for (int slot = 0; slot < 8; slot++) {
            state.append(' ').append(told(ledger, slot));
        }
        return state.toString();
    }

    static String draft(Releaseledger ledger) {
        StringBuilder signs = new StringBuilder();
        for (int place = 0; place < 1000; place++) {
            try {
                signs.append(ledger.sign(place));
            } catch (IndexOutOfBoundsException e) {
                return signs.toString();
            }
        }
        return signs.toString();
    }

    static String told(Releaseledger ledger, int slot) {
        StringBuilder signs = new StringBuilder();
        int size = ledger.size(slot);
        for (int place = 0; place < size; place++) {
            signs.append(ledger.text(slot, place));
        }
        return signs.toString();
    }

    /** Puts a text together in the draft, token by token. */
    static void write(Releaseledger ledger, String text) {
        ledger.drop();
        int place = 0;
        while (place < text.length()) {
            boolean first = place == 0;
            char how = 'n';
            if (".-+".indexOf(text.charAt(place)) >= 0) {
                how = text.charAt(place);
                place++;
            }
            int end = place;
            boolean number = Character.isDigit(text.charAt(place));
            while (end < text.length() && Character.isLetterOrDigit(text.charAt(end))
                    && Character.isDigit(text.charAt(end)) == number) {
                end++;
            }
            writeToken(ledger, text.substring(place, end), how, first);
            place = end;
        }
    }

    private static void writeToken(Releaseledger ledger, String token, char how, boolean first) {
        if (!Character.isDigit(token.charAt(0))) {
            ledger.word(codeOf(token), token.length(), how);
            return;
        }
        int number = Integer.parseInt(token);
        int zeros = token.length() - Integer.toString(number).length();
        if (first) {
            ledger.begin(number, zeros);
        } else {
            ledger.add(number, zeros, how);
        }
    }

    static int codeOf(String word) {
        String letters = "abcdefghijklmnopqrstuvwxyzABCDEFGHIJKLMNOPQRSTUVWXYZ";
        int code = 0;
        for (int place = word.length() - 1; place >= 0; place--) {
            code = code * 52 + letters.indexOf(word.charAt(place));
        }
        return code;
    }

    /** A ledger with these versions in its slots, from slot 0 on. */
    static Releaseledger holding(String... texts) {
        Releaseledger ledger = new Releaseledger();
        for (int slot = 0; slot < texts.length; slot++) {
            write(ledger, texts[slot]);
            ledger.parse(slot);
        }
        ledger.drop();
        return ledger;
    }

    static void end(String name) {
        System.out.println(name + ": " + looked + " answers looked at, " + wrong + " wrong");
        if (wrong != 0 || looked == 0) {
            System.exit(1);
        }
    }
}
