/** Promises 13 to 20: a test for each sentence that names a boundary. */
final class StampingBoundaryTest extends Calls {
    public static void main(String[] args) throws Exception {
        Sentences.runAll(StampingBoundaryTest.class);
    }

    /** Thirteen letters stamped, ten with the potato 0 first; so many tenths of ink come ahead of a stamp. */
    private static PotatoStamps worn(int[] stamps, int[] tenths) {
        PotatoStamps x = new PotatoStamps();
        x.potato();
        x.potato();
        letters(x, 15);
        int pour = 0;
        for (int item = 0; item < 13; item++) {
            if (pour < stamps.length && stamps[pour] == item) {
                x.ink(tenths[pour]);
                pour++;
            }
            x.stamp(item, item < 10 ? 0 : 1);
        }
        return x;
    }

    /** An office whose potato 0 has a print of just 0.3f. */
    private static PotatoStamps justStrong() {
        PotatoStamps x = worn(new int[] {1, 3, 11}, new int[] {18, 3, 10});
        Check.bits("just strong enough", 0.3f, x.print(0));
        return x;
    }

    /** An office whose potato 0 has the next print below 0.3f. */
    private static PotatoStamps justWeak() {
        PotatoStamps x = worn(new int[] {5, 7}, new int[] {21, 9});
        Check.due("just too weak", Float.floatToIntBits(0.3f) - 1L, x.print(0));
        return x;
    }

    @Sentence(promise = 13, says = "At most 5 potatoes are kept, numbered from 0, each with a firmness, at first 1.0f.")
    static void fivePotatoes() {
        PotatoStamps x = new PotatoStamps();
        for (int n = 0; n < 5; n++) {
            Check.due("number", n, x.potato());
            Check.floats("new", 1.0f, x.firmness(n));
        }
        raises("a sixth", REFUSED, () -> x.potato());
        Check.due("potatoes", 5, x.account(4));
        x.undo();
        Check.due("the last number again", 4, x.potato());
        letters(x, 1);
        x.stamp(0, 4);
        x.undo();
        x.undo();
        x.undo();
        x.undo();
        Check.due("the last number again", 4, x.potato());
        Check.floats("new again", 1.0f, x.firmness(4));
    }

    @Sentence(promise = 13, says = "Throws `UnsupportedOperationException` if it is refused for reason 1; the reason is kept for refusal")
    static void sixthPotato() {
        PotatoStamps x = new PotatoStamps();
        for (int n = 0; n < 5; n++) {
            x.potato();
        }
        refuses("sixth", x, 1, 5, () -> x.potato());
    }

    @Sentence(promise = 14, says = "Throws `IndexOutOfBoundsException` if there is no such potato")
    static void firmnessNoPotato() {
        PotatoStamps x = new PotatoStamps();
        raisesFor(NO_SUCH, n -> x.firmness(n), 0, -1, 4, 5);
        for (int n = 0; n < 5; n++) {
            raisesFor(NO_SUCH, m -> x.firmness(m), n);
            x.potato();
            Check.floats("last", 1.0f, x.firmness(n));
        }
        raisesFor(NO_SUCH, n -> x.firmness(n), outside(0, 4));
        x.undo();
        raisesFor(NO_SUCH, n -> x.firmness(n), 4);
    }

    @Sentence(promise = 15, says = "Throws `IndexOutOfBoundsException` if there is no such potato")
    static void printNoPotato() {
        PotatoStamps x = new PotatoStamps();
        raisesFor(NO_SUCH, n -> x.print(n), 0, -1, 4, 5);
        for (int n = 0; n < 5; n++) {
            raisesFor(NO_SUCH, m -> x.print(m), n);
            x.potato();
            Check.bits("last", 1.0f * (2.0f / (2.0f + 0.5f)), x.print(n));
        }
        raisesFor(NO_SUCH, n -> x.print(n), outside(0, 4));
        x.undo();
        raisesFor(NO_SUCH, n -> x.print(n), 4);
    }

    @Sentence(promise = 15, says = "A print of a potato is (its firmness times (the ink divided by (the ink plus 0.5f))).")
    static void printAsItWouldBe() {
        PotatoStamps x = new PotatoStamps();
        x.potato();
        letters(x, 10);
        float firm = 1.0f;
        for (int item = 0; item < 10; item++) {
            x.ink(7);
            float ink = x.inkNow();
            Check.bits("print " + item, firm * (ink / (ink + 0.5f)), x.print(0));
            x.stamp(item, 0);
            firm = 0.9f * firm;
            Check.floats("firmness " + item, firm, x.firmness(0));
        }
        x.ink(50);
        x.ink(50);
        Check.bits("all ink", firm * (9.0f / (9.0f + 0.5f)), x.print(0));
    }

    @Sentence(promise = 16, says = "Throws `IndexOutOfBoundsException` if there is no such potato")
    static void stampsOfNoPotato() {
        PotatoStamps x = new PotatoStamps();
        raisesFor(NO_SUCH, n -> x.stampsOf(n), 0, -1);
        for (int n = 0; n < 5; n++) {
            x.potato();
        }
        raisesFor(NO_SUCH, n -> x.stampsOf(n), outside(0, 4));
    }

    @Sentence(promise = 16, says = "Returns how many items could still be stamped with a potato, one after the other, if no ink is poured and no other potato is used.")
    static void stampsOfEnds() {
        PotatoStamps strong = justStrong();
        Check.due("just one", 1, strong.stampsOf(0));
        Check.due("nothing is stamped", 0, strong.itemOf(13, 4));
        strong.stamp(13, 0);
        Check.due("none", 0, strong.stampsOf(0));
        PotatoStamps weak = justWeak();
        Check.due("none at all", 0, weak.stampsOf(0));
        PotatoStamps x = new PotatoStamps();
        x.potato();
        x.potato();
        Check.due("a new one, without items", 9, x.stampsOf(0));
        x.ink(50);
        x.ink(50);
        Check.due("with all ink", 11, x.stampsOf(1));
        letters(x, 11);
        for (int item = 0; item < 11; item++) {
            Check.due("left", 11 - item, x.stampsOf(1));
            x.stamp(item, 1);
        }
        Check.due("no more", 0, x.stampsOf(1));
        Check.due("no items left, but a potato", true, x.stampsOf(0) > 0);
    }

    @Sentence(promise = 17, says = "Throws `NoSuchElementException` if there are none")
    static void bestOfNone() {
        PotatoStamps x = new PotatoStamps();
        raises("none", NONE, () -> x.best());
        x.potato();
        Check.due("the only one", 0, x.best());
        x.undo();
        raises("none again", NONE, () -> x.best());
    }

    @Sentence(promise = 17, says = "Returns the potato with the strongest print, of several the lowest one.")
    static void bestTies() {
        PotatoStamps x = new PotatoStamps();
        letters(x, 9);
        for (int n = 0; n < 5; n++) {
            x.potato();
            Check.due("the lowest of " + n, 0, x.best());
        }
        for (int item = 0; item < 4; item++) {
            x.stamp(item, item);
            Check.due("the next", item + 1, x.best());
        }
        x.stamp(4, 4);
        Check.due("the lowest of all once used", 0, x.best());
        x.stamp(5, 0);
        x.stamp(6, 1);
        Check.due("the lowest of three", 2, x.best());
    }

    @Sentence(promise = 18, says = "Throws `IllegalArgumentException` if the number is out of range")
    static void inkOutOfRange() {
        PotatoStamps x = new PotatoStamps();
        raisesFor(OUT_OF_RANGE, n -> x.ink(n), outside(1, 50));
        Check.floats("ink", 2.0f, x.inkNow());
    }

    @Sentence(promise = 18, says = "`tenths`: how much, 1 to 50 tenths, each of 0.1f: (0.1f times the tenths as a float)")
    static void inkEnds() {
        for (int tenths = 1; tenths <= 50; tenths++) {
            PotatoStamps x = new PotatoStamps();
            Check.bits(tenths + " tenths", 2.0f + 0.1f * (float) tenths, x.ink(tenths));
            Check.floats("and then", 2.0f + 0.1f * (float) tenths, x.inkNow());
        }
    }

    @Sentence(promise = 18, says = "Pours ink; what would be more than 9.0f is lost.")
    static void inkFull() {
        PotatoStamps x = new PotatoStamps();
        Check.bits("half", 7.0f, x.ink(50));
        Check.bits("just full", 9.0f, x.ink(20));
        Check.bits("full", 9.0f, x.ink(1));
        Check.bits("full", 9.0f, x.ink(50));
        Check.due("each a change", 4, x.account(14));
        PotatoStamps y = new PotatoStamps();
        y.ink(50);
        Check.bits("not yet full", 7.0f + 0.1f * 19f, y.ink(19));
        Check.bits("a part of it", 9.0f, y.ink(2));
        PotatoStamps z = new PotatoStamps();
        z.ink(7);
        z.ink(47);
        Check.bits("a bit more, as floats", 9.0f, z.ink(16));
    }

    @Sentence(promise = 19, says = "There are from 0.0f to 9.0f of ink.")
    static void inkNowEnds() {
        PotatoStamps x = new PotatoStamps();
        x.ink(50);
        x.ink(50);
        Check.floats("most", 9.0f, x.inkNow());
        x.undo();
        x.undo();
        x.potato();
        x.potato();
        letters(x, 12);
        float ink = 2.0f;
        for (int item = 0; item < 12; item++) {
            x.stamp(item, item / 6);
            ink = 0.95f * ink;
            Check.floats("less", ink, x.inkNow());
        }
    }

    @Sentence(promise = 20, says = "Throws `IndexOutOfBoundsException` if there is no such item or potato")
    static void stampNoSuch() {
        PotatoStamps x = new PotatoStamps();
        raises("neither", NO_SUCH, () -> x.stamp(0, 0));
        letters(x, 1);
        raises("no potato", NO_SUCH, () -> x.stamp(0, 0));
        x.potato();
        raisesFor(NO_SUCH, n -> x.stamp(n, 0), outside(0, 0));
        raisesFor(NO_SUCH, n -> x.stamp(0, n), outside(0, 0));
        Check.due("not stamped", 0, x.itemOf(0, 4));
        letterUntil(x, 20, 0);
        raisesFor(NO_SUCH, n -> x.stamp(n, 0), 20);
        Check.bits("the last item", 0.8f, x.stamp(19, 0));
    }

    @Sentence(promise = 20, says = "An item is stamped with a potato whose print is at least 0.3f; then the firmness becomes (0.9f times the firmness), and the ink becomes (0.95f times the ink).")
    static void stampJustStrong() {
        PotatoStamps x = justStrong();
        float firm = x.firmness(0);
        float ink = x.inkNow();
        Check.bits("just enough", 0.3f, x.stamp(13, 0));
        Check.due("stamped", 1, x.itemOf(13, 4));
        Check.floats("softer", 0.9f * firm, x.firmness(0));
        Check.floats("less ink", 0.95f * ink, x.inkNow());
        refuses("not twice", x, 6, 0, () -> x.stamp(14, 0));
    }

    @Sentence(promise = 20, says = "6, the print of the potato is too weak: the potato;")
    static void stampJustWeak() {
        PotatoStamps x = justWeak();
        float ink = x.inkNow();
        refuses("just too weak", x, 6, 0, () -> x.stamp(13, 0));
        Check.floats("no ink gone", ink, x.inkNow());
        Check.due("not stamped", -1, x.itemOf(13, 6));
        x.stamp(14, 1);
        Check.due("the other one was strong enough", 1, x.itemOf(14, 6));
        x.undo();
        x.ink(1);
        x.stamp(13, 0);
        Check.due("strong enough with a bit more ink", 0, x.itemOf(13, 6));
    }

    @Sentence(promise = 20, says = "5, the item is not made, but stamped or more: its state;")
    static void stampOnce() {
        PotatoStamps x = sample();
        int[] states = {4, 3, 3, 2, 2, 1};
        for (int item = 0; item < 6; item++) {
            int stamped = item;
            refuses("item " + item, x, 5, states[item], () -> x.stamp(stamped, 0));
        }
        Check.due("made ones alone", true, x.stamp(6, 0) > 0);
    }

    @Sentence(promise = 20, says = "Throws `UnsupportedOperationException` if it is refused for reason 5 or 6; the reason is kept for refusal")
    static void stampReasonsInOrder() {
        PotatoStamps x = justWeak();
        refuses("weak alone", x, 6, 0, () -> x.stamp(13, 0));
        refuses("stamped ahead of weak", x, 5, 1, () -> x.stamp(12, 0));
        refuses("stamped alone", x, 5, 1, () -> x.stamp(12, 1));
    }

    @Sentence(promise = 20, says = "Computations of floats are done from the left to the right, those in brackets first.")
    static void stampBrackets() {
        PotatoStamps x = new PotatoStamps();
        x.potato();
        letters(x, 9);
        float firm = 1.0f;
        float ink = 2.0f;
        int differ = 0;
        for (int item = 0; item < 9; item++) {
            float due = firm * (ink / (ink + 0.5f));
            differ += due != firm * ink / (ink + 0.5f) ? 1 : 0;
            Check.bits("print " + item, due, x.stamp(item, 0));
            firm = 0.9f * firm;
            ink = 0.95f * ink;
        }
        Check.due("the brackets matter", true, differ > 0);
    }
}
