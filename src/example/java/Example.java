/** Puts versions into the slots of a ledger, sorts them, and prints what the ledger tells of them. */
public final class Example {
    private Example() {
    }

    public static void main(String[] args) {
        Releaseledger ledger = new Releaseledger();
        ledger.triple(7, 1, 2, 0);                                   // slot 7: 1.2.0
        ledger.begin(1, 0);                                          // the draft: 1
        ledger.add(2, 0, '.');                                       // the draft: 1.2
        ledger.word(0, 2, '-');                                      // the draft: 1.2-aa
        ledger.parse(6);                                             // slot 6: 1.2-aa
        ledger.built(6, 7, 5);                                       // slot 5: 1.2-aa+7
        ledger.longer(7, 3, 4);                                      // slot 4: 1.2.0.3

        System.out.println("compare: " + ledger.compare(6, 7));      // an early row leads back
        System.out.println("told apart by row: " + ledger.apart(6, 7));
        System.out.println("moved by sort: " + ledger.sort());
        for (int slot = 0; slot < 8; slot++) {
            System.out.println("slot " + slot + ": " + textOf(ledger, slot));
        }
        try {
            ledger.word(1, 1, 'n');                                  // the draft ends with a word
        } catch (IllegalStateException e) {
            System.out.println("refused, the draft still has " + ledger.drop() + " signs");
        }
    }

    private static String textOf(Releaseledger ledger, int slot) {
        StringBuilder text = new StringBuilder();
        for (int place = 0; place < ledger.size(slot); place++) {
            text.append(ledger.text(slot, place));
        }
        return text.toString();
    }
}
