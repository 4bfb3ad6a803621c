/** A test for each promise of the document, by its number. */
final class PromisesTest extends Calls {
    private PromisesTest() {
    }

    public static void main(String[] args) {
        promise1();
        promise2();
        promise3();
        promise4();
        promise4Refusals();
        promise5();
        promise6();
        promise7();
        promise8();
        promise9();
        promises10And11();
        promise12();
        promise13();
        promises14And15();
        promise16();
        promise17();
        promises18And19();
        promise20();
        promise21();
        promise22();
        promise23();
        promise24();
        promise25();
        promises26And27();
        promise28();
        promise29();
        promise30();
        promise31();
        promise32();
        promise33();
        promise33Refusals();
        promise33WrongOrders();
        promise34();
        promise35();
        promise36();
        promise37();
        promise38();
        promise39();
        promises40And41();
        allItems();
        staleInput();
        keptApart();
        Check.end();
    }

    private static void promise1() {
        PotatoStamps x = new PotatoStamps();
        Check.floats("1 ink", 2.0f, x.inkNow());
        Check.floats("1 hunger", 0.0f, x.hunger());
        for (int what = 0; what <= 14; what++) {
            Check.due("1 account " + what, 0, x.account(what));
        }
        Check.bits("1 string", 4.0f, x.string(1));
        Check.due("1 errorPosition", -1, x.errorPosition());
        Check.due("1 isWell", true, x.isWell());
    }

    private static void promise2() {
        PotatoStamps x = new PotatoStamps();
        raises("2 short", OUT_OF_RANGE, () -> x.crayon(9));
        raises("2 long", OUT_OF_RANGE, () -> x.crayon(121));
        for (int n = 0; n < 8; n++) {
            Check.due("2 number", n, x.crayon(n == 0 ? 10 : n == 1 ? 120 : 33));
        }
        Check.floats("2 least", 0.1f * 10f, x.crayonOf(0));
        Check.floats("2 most", 0.1f * 120f, x.crayonOf(1));
        Check.floats("2 rounded", 0.1f * 33f, x.crayonOf(2));
        refuses("2 ninth", x, 1, 8, () -> x.crayon(10));
        raises("2 range ahead of the refusal", OUT_OF_RANGE, () -> x.crayon(9));
        Check.due("2 unchanged", 8, x.account(1));
    }

    private static void promise3() {
        PotatoStamps x = new PotatoStamps();
        raises("3 none", NO_SUCH, () -> x.crayonOf(0));
        x.crayon(50);
        x.letter(0, 1, 30, 0);
        Check.floats("3 shorter", 0.1f * 50f - 0.05f * 30f, x.crayonOf(0));
        raises("3 below", NO_SUCH, () -> x.crayonOf(-1));
        raises("3 above", NO_SUCH, () -> x.crayonOf(1));
        raises("3 far", NO_SUCH, () -> x.crayonOf(Integer.MAX_VALUE));
    }

    private static void promise4() {
        PotatoStamps x = new PotatoStamps();
        raises("4 no crayon", NO_SUCH, () -> x.letter(0, 1, 1, 0));
        x.crayon(120);
        raises("4 from -1", NO_SUCH, () -> x.letter(-1, 1, 1, 0));
        raises("4 from 6", NO_SUCH, () -> x.letter(6, 1, 1, 0));
        raises("4 to -1", NO_SUCH, () -> x.letter(0, -1, 1, 0));
        raises("4 to 6", NO_SUCH, () -> x.letter(0, 6, 1, 0));
        raises("4 crayon -1", NO_SUCH, () -> x.letter(0, 1, 1, -1));
        raises("4 crayon 1", NO_SUCH, () -> x.letter(0, 1, 0, 1));
        raises("4 words 0", OUT_OF_RANGE, () -> x.letter(0, 1, 0, 0));
        raises("4 words 41", OUT_OF_RANGE, () -> x.letter(0, 1, 41, 0));
        raises("4 words ahead of the refusal", OUT_OF_RANGE, () -> x.letter(1, 1, 41, 0));
        Check.due("4 first", 0, x.letter(5, 0, 40, 0));
        Check.due("4 second", 1, x.letter(0, 5, 1, 0));
        Check.floats("4 crayon", 0.1f * 120f - 0.05f * 40f - 0.05f * 1f, x.crayonOf(0));
        Check.due("4 from", 5, x.itemOf(0, 1));
        Check.due("4 to", 0, x.itemOf(0, 2));
    }

    private static void promise4Refusals() {
        PotatoStamps x = new PotatoStamps();
        x.crayon(10);
        x.crayon(120);
        refuses("4 same", x, 2, 3, () -> x.letter(3, 3, 40, 0));
        refuses("4 too short", x, 3, 0, () -> x.letter(3, 4, 21, 0));
        Check.due("4 just long enough", 0, x.letter(3, 4, 20, 0));
        Check.floats("4 nothing left", 0.0f, x.crayonOf(0));
        refuses("4 used up", x, 3, 0, () -> x.letter(3, 4, 1, 0));
        for (int n = 1; n < 20; n++) {
            x.letter(0, 1, 1, 1);
        }
        refuses("4 twenty", x, 1, 20, () -> x.letter(3, 3, 40, 0));
        Check.due("4 unchanged", 20, x.account(2));
    }

    private static void promise5() {
        PotatoStamps x = new PotatoStamps();
        raises("5 from -1", NO_SUCH, () -> x.parcel(-1, 1, 1, 1, 1));
        raises("5 from 6", NO_SUCH, () -> x.parcel(6, 1, 0, 1, 1));
        raises("5 to -1", NO_SUCH, () -> x.parcel(0, -1, 1, 1, 1));
        raises("5 to 6", NO_SUCH, () -> x.parcel(0, 6, 1, 1, 1));
        raises("5 a 0", OUT_OF_RANGE, () -> x.parcel(0, 1, 0, 1, 1));
        raises("5 a 10", OUT_OF_RANGE, () -> x.parcel(0, 1, 10, 1, 1));
        raises("5 b 0", OUT_OF_RANGE, () -> x.parcel(0, 1, 1, 0, 1));
        raises("5 b 10", OUT_OF_RANGE, () -> x.parcel(0, 1, 1, 10, 1));
        raises("5 c 0", OUT_OF_RANGE, () -> x.parcel(0, 1, 1, 1, 0));
        raises("5 c 10", OUT_OF_RANGE, () -> x.parcel(1, 1, 1, 1, 10));
        refuses("5 same", x, 2, 4, () -> x.parcel(4, 4, 9, 9, 9));
        refuses("5 string", x, 4, 3, () -> x.parcel(0, 1, 9, 9, 9));
        Check.due("5 all of it", 0, x.parcel(0, 1, 4, 3, 4));
        refuses("5 none left", x, 4, 0, () -> x.parcel(0, 1, 1, 1, 1));
        Check.bits("5 string", (0.1f * 20f) + (3.0f - 0.1f * 30f), x.string(2));
        Check.due("5 kind", 1, x.itemOf(0, 0));
        Check.due("5 sides", 11, x.itemOf(0, 3));
        refuses("5 rounded down", x, 4, 1, () -> {
            x.parcel(1, 0, 1, 1, 1);
            x.parcel(1, 0, 9, 9, 9);
        });
        x.string(20);
        x.string(20);
        while (x.account(2) < 20) {
            x.parcel(0, 1, 1, 1, 1);
        }
        refuses("5 twenty", x, 1, 20, () -> x.parcel(3, 3, 9, 9, 9));
    }

    private static void promise6() {
        PotatoStamps x = new PotatoStamps();
        raises("6 none", NO_SUCH, () -> x.itemOf(0, 9));
        x.crayon(100);
        x.potato();
        x.potato();
        x.letter(3, 2, 17, 0);
        x.parcel(4, 5, 1, 2, 3);
        dueItem("6 letter", x, 0, new int[] {0, 3, 2, 17, 0, -1, -1});
        dueItem("6 parcel", x, 1, new int[] {1, 4, 5, 6, 0, -1, -1});
        x.stamp(0, 1);
        dueItem("6 stamped", x, 0, new int[] {0, 3, 2, 17, 1, -1, 1});
        x.shelve(0, 0);
        dueItem("6 shelved", x, 0, new int[] {0, 3, 2, 17, 2, 0, 1});
        x.take(2);
        dueItem("6 taken", x, 0, new int[] {0, 3, 2, 17, 3, -1, 1});
        raises("6 item -1", NO_SUCH, () -> x.itemOf(-1, 0));
        raises("6 item 2", NO_SUCH, () -> x.itemOf(2, 7));
        raises("6 what -1", OUT_OF_RANGE, () -> x.itemOf(0, -1));
        raises("6 what 7", OUT_OF_RANGE, () -> x.itemOf(0, 7));
        x.letter(0, 1, 1, 0);
        x.stamp(2, 0);
        x.shelve(2, 0);
        x.pass(6);
        dueItem("6 eaten", x, 2, new int[] {0, 0, 1, 1, 4, -1, 0});
    }

    private static void promise7() {
        PotatoStamps x = new PotatoStamps();
        raises("7 none", NO_SUCH, () -> x.reads(0));
        x.crayon(60);
        x.letter(0, 1, 37, 0);
        float behind = 0.1f * 60f - 0.05f * 37f;
        float due = (behind + 1.0f) / ((behind + 1.0f) + 0.1f * 37f);
        Check.bits("7 letter", due, x.reads(0));
        x.letter(0, 1, 40, 0);
        Check.bits("7 stays", due, x.reads(0));
        x.parcel(0, 1, 1, 1, 1);
        raises("7 parcel", NONE, () -> x.reads(2));
        raises("7 below", NO_SUCH, () -> x.reads(-1));
        raises("7 above", NO_SUCH, () -> x.reads(3));
    }

    private static void promise8() {
        PotatoStamps x = new PotatoStamps();
        for (int a = 1; a <= 9; a++) {
            for (int b = 1; b <= 9; b++) {
                for (int c = 1; c <= 9; c += 3) {
                    Check.bits("8 string", 0.1f * (float) (2 * a + 2 * b + 4 * c), x.stringFor(a, b, c));
                }
            }
        }
        for (int wrong : new int[] {-1, 0, 10, Integer.MAX_VALUE, Integer.MIN_VALUE}) {
            raises("8 a", OUT_OF_RANGE, () -> x.stringFor(wrong, 1, 1));
            raises("8 b", OUT_OF_RANGE, () -> x.stringFor(1, wrong, 1));
            raises("8 c", OUT_OF_RANGE, () -> x.stringFor(1, 1, wrong));
        }
    }

    private static void promise9() {
        PotatoStamps x = new PotatoStamps();
        raises("9 0", OUT_OF_RANGE, () -> x.string(0));
        raises("9 21", OUT_OF_RANGE, () -> x.string(21));
        raises("9 -1", OUT_OF_RANGE, () -> x.string(-1));
        Check.bits("9 1", 4.0f, x.string(1));
        x.parcel(0, 1, 1, 2, 3);
        Check.bits("9 20", 4.0f - 0.1f * 18f + 20f, x.string(20));
        x.string(20);
        x.string(20);
        x.string(20);
        Check.bits("9 more than all", 99.0f, x.string(20));
        Check.bits("9 full", 99.0f, x.string(1));
    }

    private static void promises10And11() {
        PotatoStamps x = new PotatoStamps();
        raises("10 none", NO_SUCH, () -> x.lettersOf(0, 0));
        raises("11 none", NO_SUCH, () -> x.lettersAgain(0, 0));
        x.crayon(120);
        x.crayon(10);
        for (int words : new int[] {-1, 0, 41}) {
            raises("10 words", OUT_OF_RANGE, () -> x.lettersOf(0, words));
            raises("11 words", OUT_OF_RANGE, () -> x.lettersAgain(0, words));
        }
        for (int crayon : new int[] {-1, 2}) {
            raises("10 crayon", NO_SUCH, () -> x.lettersOf(crayon, 1));
            raises("11 crayon", NO_SUCH, () -> x.lettersAgain(crayon, 1));
        }
        for (int words = 1; words <= 40; words++) {
            for (int crayon = 0; crayon < 2; crayon++) {
                int due = lettersByHand(x.crayonOf(crayon), words);
                Check.due("10 " + words, due, x.lettersOf(crayon, words));
                Check.due("11 " + words, due, x.lettersAgain(crayon, words));
            }
        }
        Check.due("10 just long enough", 1, x.lettersOf(1, 20));
        Check.due("11 just long enough", 1, x.lettersAgain(1, 20));
        Check.due("10 more than 20 items", true, x.lettersOf(0, 1) > 200);
        Check.due("10 nothing written", 0, x.account(2));
        Check.floats("11 nothing used", 0.1f * 120f, x.crayonOf(0));
    }

    private static int lettersByHand(float length, int words) {
        int letters = 0;
        for (float left = length; left >= 0.05f * (float) words; left = left - 0.05f * (float) words) {
            letters++;
        }
        return letters;
    }

    private static void promise12() {
        PotatoStamps x = new PotatoStamps();
        raises("12 none", NONE, () -> x.ranked(0));
        x.crayon(50);
        x.crayon(50);
        x.letter(0, 1, 20, 0);
        x.parcel(0, 1, 1, 1, 1);
        x.letter(0, 1, 20, 1);
        x.letter(0, 1, 1, 0);
        x.potato();
        x.stamp(3, 0);
        x.shelve(3, 0);
        x.take(1);
        Check.due("12 best, though taken", 3, x.ranked(0));
        Check.due("12 of equal ones the lower", 0, x.ranked(1));
        Check.due("12 of equal ones the higher", 2, x.ranked(2));
        raises("12 no parcels", NONE, () -> x.ranked(3));
        raises("12 below", NONE, () -> x.ranked(-1));
    }

    private static void promise13() {
        PotatoStamps x = new PotatoStamps();
        for (int n = 0; n < 5; n++) {
            Check.due("13 number", n, x.potato());
        }
        refuses("13 sixth", x, 1, 5, () -> x.potato());
        Check.due("13 unchanged", 5, x.account(4));
    }

    private static void promises14And15() {
        PotatoStamps x = new PotatoStamps();
        raises("14 none", NO_SUCH, () -> x.firmness(0));
        raises("15 none", NO_SUCH, () -> x.print(0));
        x.potato();
        x.potato();
        Check.floats("14 new", 1.0f, x.firmness(0));
        Check.bits("15 new", 1.0f * (2.0f / (2.0f + 0.5f)), x.print(0));
        letters(x, 2);
        x.stamp(0, 0);
        x.stamp(1, 0);
        float ink = 0.95f * (0.95f * 2.0f);
        Check.floats("14 soft", 0.9f * (0.9f * 1.0f), x.firmness(0));
        Check.floats("14 the other one", 1.0f, x.firmness(1));
        Check.bits("15 soft", (0.9f * (0.9f * 1.0f)) * (ink / (ink + 0.5f)), x.print(0));
        for (int potato : new int[] {-1, 2}) {
            raises("14 " + potato, NO_SUCH, () -> x.firmness(potato));
            raises("15 " + potato, NO_SUCH, () -> x.print(potato));
        }
    }

    private static void promise16() {
        PotatoStamps x = new PotatoStamps();
        raises("16 none", NO_SUCH, () -> x.stampsOf(0));
        x.potato();
        letters(x, 15);
        int due = x.stampsOf(0);
        for (int item = 0; item < due; item++) {
            Check.due("16 left", due - item, x.stampsOf(0));
            x.stamp(item, 0);
        }
        Check.due("16 no more", 0, x.stampsOf(0));
        int next = due;
        refuses("16 no more indeed", x, 6, 0, () -> x.stamp(next, 0));
        Check.due("16 as many as 9", 9, due);
        raises("16 -1", NO_SUCH, () -> x.stampsOf(-1));
        raises("16 1", NO_SUCH, () -> x.stampsOf(1));
    }

    private static void promise17() {
        PotatoStamps x = new PotatoStamps();
        raises("17 none", NONE, () -> x.best());
        x.potato();
        x.potato();
        x.potato();
        Check.due("17 the lowest", 0, x.best());
        letters(x, 2);
        x.stamp(0, 0);
        Check.due("17 the next", 1, x.best());
        x.stamp(1, 1);
        Check.due("17 the last", 2, x.best());
    }

    private static void promises18And19() {
        PotatoStamps x = new PotatoStamps();
        raises("18 0", OUT_OF_RANGE, () -> x.ink(0));
        raises("18 51", OUT_OF_RANGE, () -> x.ink(51));
        raises("18 -1", OUT_OF_RANGE, () -> x.ink(-1));
        Check.bits("18 1", 2.0f + 0.1f * 1f, x.ink(1));
        Check.floats("19 now", 2.0f + 0.1f * 1f, x.inkNow());
        Check.bits("18 50", 2.0f + 0.1f * 1f + 0.1f * 50f, x.ink(50));
        Check.bits("18 more than all", 9.0f, x.ink(50));
        Check.floats("19 full", 9.0f, x.inkNow());
        x.potato();
        letters(x, 1);
        x.stamp(0, 0);
        Check.floats("19 less", 0.95f * 9.0f, x.inkNow());
    }

    private static void promise20() {
        PotatoStamps x = new PotatoStamps();
        letters(x, 14);
        raises("20 no potato", NO_SUCH, () -> x.stamp(0, 0));
        x.potato();
        raises("20 potato 1", NO_SUCH, () -> x.stamp(0, 1));
        raises("20 potato -1", NO_SUCH, () -> x.stamp(0, -1));
        raises("20 item 14", NO_SUCH, () -> x.stamp(14, 0));
        raises("20 item -1", NO_SUCH, () -> x.stamp(-1, 0));
        Check.bits("20 first", 1.0f * (2.0f / (2.0f + 0.5f)), x.stamp(0, 0));
        float ink = 0.95f * 2.0f;
        Check.bits("20 second", (0.9f * 1.0f) * (ink / (ink + 0.5f)), x.stamp(1, 0));
        refuses("20 stamped", x, 5, 1, () -> x.stamp(1, 0));
        x.shelve(1, 0);
        refuses("20 shelved", x, 5, 2, () -> x.stamp(1, 0));
        x.take(1);
        refuses("20 taken", x, 5, 3, () -> x.stamp(1, 0));
        x.shelve(0, 0);
        x.pass(6);
        refuses("20 eaten", x, 5, 4, () -> x.stamp(0, 0));
        for (int item = 2; item < 9; item++) {
            x.stamp(item, 0);
        }
        float before = x.inkNow();
        refuses("20 weak", x, 6, 0, () -> x.stamp(9, 0));
        refuses("20 stamped ahead of weak", x, 5, 1, () -> x.stamp(8, 0));
        Check.floats("20 no ink gone", before, x.inkNow());
        Check.due("20 not stamped", -1, x.itemOf(9, 6));
    }

    private static void promise21() {
        PotatoStamps x = new PotatoStamps();
        x.potato();
        letters(x, 5);
        x.parcel(0, 1, 1, 1, 1);
        x.parcel(0, 1, 1, 1, 1);
        x.parcel(0, 1, 1, 1, 1);
        raises("21 item 8", NO_SUCH, () -> x.shelve(8, 0));
        raises("21 item -1", NO_SUCH, () -> x.shelve(-1, 0));
        raises("21 row 2", NO_SUCH, () -> x.shelve(0, 2));
        raises("21 row -1", NO_SUCH, () -> x.shelve(0, -1));
        refuses("21 made", x, 7, 0, () -> x.shelve(0, 1));
        for (int item = 0; item < 8; item++) {
            x.stamp(item, 0);
        }
        refuses("21 other row", x, 9, 1, () -> x.shelve(0, 1));
        refuses("21 other row", x, 9, 0, () -> x.shelve(5, 0));
        for (int n = 0; n < 3; n++) {
            Check.due("21 hole", n, x.shelve(n, 0));
        }
        refuses("21 full", x, 8, 0, () -> x.shelve(3, 0));
        refuses("21 full ahead of other", x, 8, 0, () -> x.shelve(5, 0));
        Check.due("21 parcel", 0, x.shelve(5, 1));
        Check.due("21 parcel", 1, x.shelve(6, 1));
        refuses("21 full", x, 8, 1, () -> x.shelve(7, 1));
        refuses("21 shelved", x, 7, 2, () -> x.shelve(0, 0));
        x.pass(6);
        int hole = x.itemOf(0, 4) == 4 ? 0 : x.itemOf(1, 4) == 4 ? 1 : 2;
        refuses("21 eaten", x, 7, 4, () -> x.shelve(hole, 0));
        Check.due("21 the freed one", hole, x.shelve(3, 0));
        x.take(1);
        refuses("21 taken", x, 7, 3, () -> x.shelve(5, 1));
        Check.due("21 the lowest again", 0, x.shelve(4, 0));
    }

    private static void promise22() {
        PotatoStamps x = new PotatoStamps();
        raises("22 6", NO_SUCH, () -> x.take(6));
        raises("22 -1", NO_SUCH, () -> x.take(-1));
        refuses("22 empty", x, 10, 5, () -> x.take(5));
        x.potato();
        letters(x, 2);
        x.parcel(0, 1, 1, 1, 1);
        x.parcel(0, 2, 1, 1, 1);
        for (int item = 0; item < 4; item++) {
            x.stamp(item, 0);
            x.shelve(item, item / 2);
        }
        Check.due("22 three", 3, x.take(1));
        Check.due("22 taken", 3, x.itemOf(0, 4));
        Check.due("22 parcel taken", 3, x.itemOf(2, 4));
        Check.due("22 the other one stays", 2, x.itemOf(3, 4));
        refuses("22 empty again", x, 10, 1, () -> x.take(1));
        Check.due("22 a parcel alone", 1, x.take(2));
    }

    private static void promise23() {
        PotatoStamps x = new PotatoStamps();
        raises("23 child 6", NO_SUCH, () -> x.inHole(6, 0, 0));
        raises("23 child -1", NO_SUCH, () -> x.inHole(-1, 0, 0));
        raises("23 row 2", NO_SUCH, () -> x.inHole(0, 2, 0));
        raises("23 row -1", NO_SUCH, () -> x.inHole(0, -1, 0));
        raises("23 hole -1", NO_SUCH, () -> x.inHole(0, 0, -1));
        raises("23 letter hole 3", NO_SUCH, () -> x.inHole(0, 0, 3));
        raises("23 parcel hole 2", NO_SUCH, () -> x.inHole(0, 1, 2));
        for (int child = 0; child < 6; child++) {
            for (int hole = 0; hole < 5; hole++) {
                int who = child;
                int place = hole;
                raises("23 empty", NONE, () -> x.inHole(who, place / 3, place % 3));
            }
        }
        x.potato();
        letters(x, 2);
        x.parcel(3, 5, 1, 1, 1);
        for (int item = 0; item < 3; item++) {
            x.stamp(item, 0);
            x.shelve(item, item / 2);
        }
        Check.due("23 first", 0, x.inHole(1, 0, 0));
        Check.due("23 second", 1, x.inHole(1, 0, 1));
        Check.due("23 parcel", 2, x.inHole(5, 1, 0));
        x.take(1);
        raises("23 taken", NONE, () -> x.inHole(1, 0, 1));
    }

    private static void promise24() {
        PotatoStamps x = new PotatoStamps();
        raises("24 6", NO_SUCH, () -> x.read(6));
        raises("24 -1", NO_SUCH, () -> x.read(-1));
        x.potato();
        letters(x, 3);
        x.parcel(3, 1, 1, 1, 1);
        for (int item : new int[] {0, 1, 3}) {
            x.stamp(item, 0);
            x.shelve(item, item / 3);
        }
        Check.due("24 not yet", 0, x.read(1));
        x.take(1);
        Check.due("24 letters alone", 2, x.read(1));
        x.stamp(2, 0);
        x.shelve(2, 0);
        x.take(1);
        Check.due("24 so far", 3, x.read(1));
        Check.due("24 another one", 0, x.read(0));
    }

    private static void promise25() {
        PotatoStamps x = new PotatoStamps();
        raises("25 0", OUT_OF_RANGE, () -> x.snacks(0));
        raises("25 21", OUT_OF_RANGE, () -> x.snacks(21));
        Check.due("25 1", 1, x.snacks(1));
        Check.due("25 20", 21, x.snacks(20));
        Check.due("25 20", 41, x.snacks(20));
        Check.due("25 full", 50, x.snacks(20));
        Check.due("25 full", 50, x.account(10));
    }

    private static void promises26And27() {
        PotatoStamps x = new PotatoStamps();
        raises("26 0", OUT_OF_RANGE, () -> x.feed(0));
        raises("26 10", OUT_OF_RANGE, () -> x.feed(10));
        refuses("26 none", x, 11, 0, () -> x.feed(1));
        x.snacks(6);
        refuses("26 few", x, 11, 6, () -> x.feed(7));
        x.pass(5);
        Check.floats("27 hungry", 7.5f, x.hunger());
        Check.bits("26 two", 3.5f, x.feed(2));
        Check.floats("27 fed", 3.5f, x.hunger());
        Check.bits("26 all, at least 0", 0.0f, x.feed(4));
        Check.floats("27 full", 0.0f, x.hunger());
        Check.due("26 gone", 0, x.account(10));
        Check.due("26 fed", 6, x.account(11));
    }

    private static void promise28() {
        PotatoStamps x = new PotatoStamps();
        raises("28 none", NONE, () -> x.prey());
        x.crayon(50);
        x.crayon(50);
        x.potato();
        x.parcel(0, 1, 1, 1, 1);
        x.letter(0, 1, 1, 0);
        x.letter(0, 2, 30, 0);
        x.letter(0, 3, 1, 1);
        x.letter(0, 4, 30, 1);
        x.letter(0, 4, 40, 1);
        for (int item = 0; item < 5; item++) {
            x.stamp(item, 0);
        }
        raises("28 none on a shelf", NONE, () -> x.prey());
        x.shelve(0, 1);
        raises("28 no parcel", NONE, () -> x.prey());
        x.shelve(1, 0);
        Check.due("28 alone", 1, x.prey());
        x.shelve(4, 0);
        Check.due("28 worse", 4, x.prey());
        x.shelve(2, 0);
        Check.due("28 as bad, lower", 2, x.prey());
        x.take(2);
        Check.due("28 the other one", 4, x.prey());
    }

    private static void promise29() {
        PotatoStamps x = new PotatoStamps();
        raises("29 none", NONE, () -> x.eatsIn());
        x.potato();
        letters(x, 2);
        x.stamp(0, 0);
        raises("29 none on a shelf", NONE, () -> x.eatsIn());
        x.shelve(0, 0);
        for (int hours = 6; hours > 0; hours--) {
            Check.due("29 hours", hours, x.eatsIn());
            Check.due("29 eaten", hours == 1 ? 1 : 0, x.pass(1));
        }
        x.pass(20);
        x.stamp(1, 0);
        x.shelve(1, 0);
        Check.due("29 one hour at the earliest", 1, x.eatsIn());
        PotatoStamps y = justNotHungry();
        Check.due("29 8.0f is not above", 2, y.eatsIn());
    }

    /** An hour will make its hunger 8.0f; a letter is on a shelf. */
    private static PotatoStamps justNotHungry() {
        PotatoStamps x = new PotatoStamps();
        x.pass(11);
        x.snacks(5);
        x.feed(5);
        Check.floats("26 hunger", 6.5f, x.hunger());
        x.potato();
        letters(x, 1);
        x.stamp(0, 0);
        x.shelve(0, 0);
        return x;
    }

    private static void promise30() {
        PotatoStamps x = new PotatoStamps();
        raises("30 0", OUT_OF_RANGE, () -> x.pass(0));
        raises("30 61", OUT_OF_RANGE, () -> x.pass(61));
        Check.due("30 nothing to eat", 0, x.pass(6));
        Check.floats("30 hungrier", 9.0f, x.hunger());
        x.potato();
        letters(x, 4);
        for (int item = 0; item < 3; item++) {
            x.stamp(item, 0);
            x.shelve(item, 0);
        }
        int worst = x.ranked(3) == 3 ? x.ranked(2) : x.ranked(3);
        Check.due("30 one in an hour", 1, x.pass(1));
        Check.due("30 the worst", 4, x.itemOf(worst, 4));
        Check.floats("30 less hungry", 5.5f, x.hunger());
        raises("30 hole free", NONE, () -> x.inHole(1, 0, worst));
        Check.due("30 hour", 7, x.account(0));
        Check.due("30 all others", 2, x.pass(60));
        Check.due("30 the stamped one stays", 0, x.itemOf(3, 4));
        Check.due("30 hour", 67, x.account(0));
        Check.floats("30 hunger", 1.5f * 67f - 15f, x.hunger());
        PotatoStamps y = justNotHungry();
        Check.due("30 8.0f is not above", 0, y.pass(1));
        Check.due("30 9.5f is", 1, y.pass(1));
    }

    private static void promise31() {
        PotatoStamps x = new PotatoStamps();
        raises("31 none", NO_SUCH, () -> x.sign(0));
        x.crayon(120);
        x.potato();
        x.letter(0, 1, 5, 0);
        x.letter(0, 1, 1, 0);
        x.parcel(0, 1, 1, 1, 1);
        dueSigns("31 made", x, "mmM");
        x.stamp(0, 0);
        x.stamp(1, 0);
        x.stamp(2, 0);
        dueSigns("31 stamped", x, "ssS");
        x.shelve(0, 0);
        x.shelve(1, 0);
        x.shelve(2, 1);
        dueSigns("31 shelved", x, "hhH");
        x.pass(6);
        dueSigns("31 eaten", x, "ehH");
        x.take(1);
        dueSigns("31 taken", x, "etT");
        raises("31 -1", NO_SUCH, () -> x.sign(-1));
        raises("31 3", NO_SUCH, () -> x.sign(3));
    }

    private static void promise32() {
        PotatoStamps x = new PotatoStamps();
        for (int n = 1; n <= 60; n++) {
            Check.due("32 number", n, x.append((char) (n * 1000)));
        }
        raises("32 full", NOT_NOW, () -> x.append('t'));
        Check.due("32 unchanged", 60, x.account(13));
        raises("32 run", OUT_OF_RANGE, () -> x.run());
        Check.due("32 empty again", 1, x.append('t'));
    }

    private static void promise33() {
        PotatoStamps x = new PotatoStamps();
        x.crayon(120);
        x.potato();
        x.snacks(9);
        x.parcel(0, 3, 1, 1, 1);
        type(x, "w0>1*40/0;w2>3*05/0;s1@0;s02@0;s00@0;h1;h02;h0;t3;f3;p06");
        Check.due("33 orders", 11, x.run());
        Check.due("33 empty", 0, x.account(13));
        Check.due("33 no error", -1, x.errorPosition());
        Check.due("33 words", 45, x.account(12));
        Check.due("33 one change", 5, x.account(14));
        Check.due("33 letters read", 1, x.read(3));
        Check.due("33 eaten", 4, x.itemOf(1, 4));
        Check.due("33 parcel taken", 3, x.itemOf(0, 4));
        Check.due("33 snacks", 6, x.account(10));
        Check.due("33 hour", 6, x.account(0));
        Check.due("33 undone as one", 4, x.undo());
        Check.due("33 undone", 1, x.account(2));
        type(x, "p1;p1;p1;p1;p1;p1;p1;p1;p1;p1;p1;p1;p1;p1;p1;p1;p1;p1;p1;p1");
        Check.due("33 as many as can be", 20, x.run());
        Check.due("33 hours", 20, x.account(0));
    }

    private static void promise33Refusals() {
        PotatoStamps x = new PotatoStamps();
        x.crayon(12);
        x.potato();
        runRefuses("33 same", x, "w1>1*1/0", 2, 1);
        runRefuses("33 short", x, "p5;w1>2*20/0;w1>2*5/0;f9", 3, 0);
        Check.due("33 nothing of it", 0, x.account(2));
        Check.due("33 no hour of it", 0, x.account(0));
        Check.floats("33 no crayon used", 0.1f * 12f, x.crayonOf(0));
        Check.due("33 no change", 2, x.account(14));
        Check.due("33 empty", 0, x.account(13));
        runRefuses("33 stamped", x, "w1>2*2/0;s0@0;s0@0", 5, 1);
        runRefuses("33 made", x, "w1>2*2/0;h0", 7, 0);
        runRefuses("33 nothing there", x, "t5", 10, 5);
        runRefuses("33 snacks", x, "f9", 11, 0);
        runRefuses("33 the first one decides", x, "f9;w9>1*1/0", 11, 0);
        letters(x, 4);
        runRefuses("33 full", x, "s0@0;s1@0;s2@0;s3@0;h0;h1;h2;h3", 8, 0);
    }

    private static void promise33WrongOrders() {
        PotatoStamps x = new PotatoStamps();
        x.crayon(120);
        x.potato();
        refuses("33 a reason ahead", x, 10, 2, () -> x.take(2));
        String[] wrong = {"w6>1*1/0", "w0>6*1/0", "w0>1*1/1", "w0>1*0/0", "w0>1*41/0", "w1>1*00/0", "s0@0",
            "w0>1*1/0;s0@1", "w0>1*1/0;s1@0", "h0", "h20", "t6", "t9", "f0", "p0", "p00", "p61", "p99",
            "w0>1*1/0;p61;f9"};
        for (String text : wrong) {
            type(x, text);
            raises("33 " + text, OUT_OF_RANGE, () -> x.run());
            Check.due("33 position of " + text, -1, x.errorPosition());
            Check.due("33 items behind " + text, 0, x.account(2));
            Check.due("33 input behind " + text, 0, x.account(13));
            Check.due("33 changes behind " + text, 2, x.account(14));
        }
        Check.due("33 the reason stays", 10, x.refusal(false));
    }

    private static void promise34() {
        String[] texts = {"", "w", "w0", "w0>", "w0>1", "w0>1*", "w0>1*4", "w0>1*40", "w0>1*40/", "s", "s1", "s12",
            "s12@", "h", "t", "f", "p", "p1;", "p1;w"};
        for (String text : texts) {
            dueError(text, text.length());
        }
        dueError(";", 0);
        dueError("x", 0);
        dueError("W0>1*1/0", 0);
        dueError("0", 0);
        dueError(" p1", 0);
        dueError("w>", 1);
        dueError("w00>1", 2);
        dueError("w0;", 2);
        dueError("w0>10*", 4);
        dueError("w0>1*/0", 5);
        dueError("w0>1*123/0", 7);
        dueError("w0>1*12/00", 9);
        dueError("s123@0", 3);
        dueError("s@0", 1);
        dueError("s1;", 2);
        dueError("s1@00", 4);
        dueError("h123", 3);
        dueError("h1@", 2);
        dueError("t12", 2);
        dueError("f12", 2);
        dueError("f-1", 1);
        dueError("p123", 3);
        dueError("p1;;p1", 3);
        dueError("p1; p1", 3);
        dueError("p1,p1", 2);
        dueError("p1" + (char) (256 + ';') + "p1", 2);
        dueError("p1p1", 2);
        dueError("p1;p1;p1;p1;p1;p1;p1;p1;p1;p1;p1;p1;p1;p1;p1;p1;p1;p1;p1;p1;", 60);
        PotatoStamps x = new PotatoStamps();
        type(x, "p1");
        Check.due("34 runs", 1, x.run());
        Check.due("34 none", -1, x.errorPosition());
        runRaises(x, "p1;x");
        Check.due("34 later", 3, x.errorPosition());
        x.append('p');
        x.undo();
        Check.due("34 stays", 3, x.errorPosition());
    }

    private static void promise35() {
        PotatoStamps x = new PotatoStamps();
        raises("35 none", NONE, () -> x.refusal(true));
        raises("35 none", NONE, () -> x.refusal(false));
        raises("35 not refused", OUT_OF_RANGE, () -> x.feed(0));
        raises("35 still none", NONE, () -> x.refusal(false));
        x.save();
        refuses("35 shelf", x, 10, 4, () -> x.take(4));
        x.crayon(10);
        Check.due("35 stays", 10, x.refusal(false));
        refuses("35 snacks", x, 11, 0, () -> x.feed(2));
        x.undo();
        Check.due("35 not undone", 11, x.refusal(false));
        x.restore();
        Check.due("35 not restored", 0, x.refusal(true));
    }

    private static void promise36() {
        PotatoStamps x = new PotatoStamps();
        raises("36 -1", OUT_OF_RANGE, () -> x.account(-1));
        raises("36 15", OUT_OF_RANGE, () -> x.account(15));
        x.crayon(100);
        x.crayon(100);
        x.potato();
        for (int n = 1; n <= 6; n++) {
            x.letter(0, 1, n, 0);
        }
        x.parcel(0, 1, 1, 1, 1);
        for (int item = 0; item < 5; item++) {
            x.stamp(item, 0);
        }
        x.shelve(0, 0);
        x.shelve(1, 0);
        x.pass(6);
        x.take(1);
        x.shelve(2, 0);
        x.snacks(7);
        x.feed(3);
        type(x, "abc");
        int[] due = {6, 2, 7, 6, 1, 2, 2, 1, 1, 1, 4, 3, 21, 3, 8};
        for (int what = 0; what <= 14; what++) {
            Check.due("36 account " + what, due[what], x.account(what));
        }
    }

    private static void promise37() {
        PotatoStamps x = new PotatoStamps();
        x.potato();
        letters(x, 3);
        x.parcel(0, 1, 1, 1, 1);
        for (int item = 0; item < 4; item++) {
            x.stamp(item, 0);
            x.shelve(item, item / 3);
            Check.due("37 shelved", true, x.isWell());
        }
        x.pass(6);
        Check.due("37 eaten", true, x.isWell());
        x.take(1);
        Check.due("37 taken", true, x.isWell());
        x.undo();
        Check.due("37 undone", true, x.isWell());
    }

    private static void promise38() {
        PotatoStamps x = new PotatoStamps();
        raises("38 none", ArithmeticException.class, () -> x.meanBits());
        x.parcel(0, 1, 1, 1, 1);
        raises("38 no parcels", ArithmeticException.class, () -> x.meanBits());
        x.crayon(120);
        double sum = 0.0;
        for (int n = 1; n <= 7; n++) {
            int item = x.letter(0, 1, 5 * n, 0);
            sum = sum + (double) Float.intBitsToFloat(x.reads(item));
            Check.due("38 mean of " + n, Double.doubleToLongBits(sum / (double) n), x.meanBits());
        }
    }

    private static void promise39() {
        PotatoStamps x = new PotatoStamps();
        raises("39 none", NOT_NOW, () -> x.undo());
        for (int n = 1; n <= 10; n++) {
            x.snacks(1);
            Check.due("39 changes", Math.min(n, 8), x.account(14));
        }
        refuses("39 no change", x, 11, 10 - 2, () -> {
            x.feed(1);
            x.feed(1);
            x.feed(9);
        });
        for (int n = 7; n >= 0; n--) {
            Check.due("39 left", n, x.undo());
        }
        Check.due("39 the eight latest", 4, x.account(10));
        Check.due("39 fed", 0, x.account(11));
        raises("39 no more", NOT_NOW, () -> x.undo());
        x.save();
        x.append('p');
        Check.due("39 neither save nor append", 0, x.account(14));
    }

    private static void promises40And41() {
        PotatoStamps x = new PotatoStamps();
        raises("41 none", NOT_NOW, () -> x.restore());
        x.potato();
        letters(x, 3);
        x.stamp(0, 0);
        x.shelve(0, 0);
        x.snacks(4);
        String before = picture(x);
        Check.due("40 items", 3, x.save());
        type(x, "p9");
        x.parcel(0, 1, 1, 1, 1);
        x.feed(2);
        x.pass(7);
        x.stamp(1, 0);
        x.shelve(1, 0);
        x.take(1);
        Check.due("41 items", 3, x.restore());
        Check.due("41 as it was", true, picture(x).equals(before));
        Check.due("41 no changes left", 0, x.account(14));
        raises("41 forgets all", NOT_NOW, () -> x.undo());
        Check.due("41 the input stays", 2, x.account(13));
        x.parcel(0, 1, 1, 1, 1);
        x.undo();
        x.pass(1);
        Check.due("41 it stays", 3, x.restore());
        Check.due("41 as it was", true, picture(x).equals(before));
        x.parcel(0, 1, 1, 1, 1);
        Check.due("40 in place of the earlier", 4, x.save());
        Check.due("40 undo goes on", 0, x.undo());
        Check.due("41 the later one", 4, x.restore());
    }

    private static void allItems() {
        PotatoStamps x = new PotatoStamps();
        x.potato();
        letters(x, 19);
        x.parcel(4, 5, 1, 1, 1);
        x.stamp(18, 0);
        x.shelve(18, 0);
        Check.due("20 items", 20, x.account(2));
        Check.due("20 items, letters", 19, x.account(3));
        Check.due("20 items, made", 19, x.account(5));
        Check.due("20 items, on shelves", 1, x.account(7));
        Check.due("20 items, words", 10 * 5 + 9 * 9, x.account(12));
        Check.due("20 items, prey", 18, x.prey());
        Check.due("20 items, ranked", true, x.ranked(18) < 19);
        raises("20 items, ranked", NONE, () -> x.ranked(19));
        Check.due("20 items, well", true, x.isWell());
        double sum = 0.0;
        for (int item = 0; item < 19; item++) {
            sum = sum + (double) Float.intBitsToFloat(x.reads(item));
        }
        Check.due("20 items, mean", Double.doubleToLongBits(sum / 19.0), x.meanBits());
        raises("20 items, item 20", NO_SUCH, () -> x.itemOf(20, 0));
    }

    /** What an earlier text left behind its end must not be read as a part of the next one. */
    private static void staleInput() {
        PotatoStamps x = new PotatoStamps();
        String longest = "p1;p1;p1;p1;p1;p1;p1;p1;p1;p1;p1;p1;p1;p1;p1;p1;p1;w0>1*12/3";
        for (int length = 59; length >= 52; length--) {
            staleInput(longest, longest.substring(0, length), length);
        }
        String[] ends = {"w", "w0", "w0>", "w0>1", "w0>1*", "w0>1*2", "w0>1*23", "w0>1*23/", "s", "s1", "s12", "s12@", "t"};
        for (String end : ends) {
            staleInput(longest, filler(60 - end.length()) + end, 60);
        }
    }

    private static void staleInput(String first, String second, int due) {
        PotatoStamps x = new PotatoStamps();
        runRaises(x, first);
        Check.due("33 no error", -1, x.errorPosition());
        runRaises(x, second);
        Check.due("33 behind a longer one, " + second, due, x.errorPosition());
    }

    private static void keptApart() {
        PotatoStamps x = new PotatoStamps();
        PotatoStamps y = new PotatoStamps();
        x.crayon(10);
        x.append('p');
        x.save();
        Check.due("two objects", 0, y.account(1) + y.account(13));
        raises("two snapshots", NOT_NOW, () -> y.restore());
    }
}
