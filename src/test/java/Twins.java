import java.util.ArrayList;
import java.util.Arrays;
import java.util.List;
import java.util.function.Supplier;
import java.util.function.UnaryOperator;

/**
 * Holds that a call changes nothing. Two objects are made alike, the call goes to one of them alone, and both are looked
 * at: all that is shown, each ROOF that can be undone to, both IMAGES, each ROW with its LANE, and what is on the tape.
 * Looking changes an object, and one serves for 512 calls alone, so each look has two objects of its own.
 */
final class Twins {
    static final int BAD = KiteTrays.BAD, STATE = KiteTrays.STATE, FULL = KiteTrays.FULL, NONE = KiteTrays.NONE;
    static final int MISSING = 1, PLACE = 2, KIND = 3, SIZE = 4, STORE = 5;
    static final int MOST = Integer.MAX_VALUE, LEAST = Integer.MIN_VALUE;

    interface Call {
        long on(KiteTrays x);
    }

    /** A call in which one number is tried. */
    interface CallBy {
        long on(KiteTrays x, int v);
    }

    private record Look(String at, UnaryOperator<KiteTrays> first, boolean isOfRows, int row) { }

    private final Check check;

    Twins(Check check) {
        this.check = check;
    }

    /** BAD, STATE or FULL: nothing changes, and status() is that of the call before. */
    void refused(String call, Supplier<KiteTrays> made, Call by, int want) {
        looked(call, made, by, want);
    }

    /** A FINDING: status() is its number, and nothing else changes. */
    void found(String call, Supplier<KiteTrays> made, Call by, int number) {
        KiteTrays x = made.get();
        check.due(call, by.on(x), -1000010 - number);
        check.due("status() behind " + call, x.status(), number);
        unchanged(call, made, by);
    }

    /** An answer of a call without a ROW that changes nothing, status() neither. */
    void looked(String call, Supplier<KiteTrays> made, Call by, long want) {
        KiteTrays x = made.get();
        int status = x.status();
        check.due(call, by.on(x), want);
        check.due("status() behind " + call + " stays", x.status(), status);
        unchanged(call, made, by);
    }

    /** An answer of a call with a ROW, or as(), that changes nothing but status(), which is 0 then. */
    void lookedWithoutFinding(String call, Supplier<KiteTrays> made, Call by, long want) {
        KiteTrays x = made.get();
        check.due(call, by.on(x), want);
        check.due("status() behind " + call, x.status(), 0);
        unchanged(call, made, by);
    }

    /** A number that is taken from least to most: the first that are BAD on each side, and the farthest. */
    void badOutside(String call, Supplier<KiteTrays> made, CallBy by, int least, int most) {
        for (int v : new int[] {least - 1, most + 1, LEAST, MOST}) {
            refused(call + " by " + v, made, x -> by.on(x, v), BAD);
        }
    }

    /** A number that is taken from least to most: what the last on each side answer, and what is BAD. */
    void bounds(String call, Supplier<KiteTrays> made, CallBy by, int least, long atLeast, int most, long atMost) {
        check.due(call + " by " + least, by.on(made.get(), least), atLeast);
        check.due(call + " by " + most, by.on(made.get(), most), atMost);
        badOutside(call, made, by, least, most);
    }

    void unchanged(String call, Supplier<KiteTrays> made, Call by) {
        for (Look look : looks(made.get().count(6))) {
            KiteTrays touched = made.get();
            by.on(touched);
            check.holds(call + " leaves " + look.at, Arrays.equals(seen(look, touched), seen(look, made.get())));
        }
    }

    private static List<Look> looks(int acts) {
        List<Look> looks = new ArrayList<>();
        looks.add(new Look("all that is shown", x -> x, false, 0));
        for (int n = 1; n <= acts + 1; n++) {
            int times = n;
            looks.add(new Look("what is undone by " + n, x -> undone(x, times), false, 0));
        }
        for (int k = 0; k < 2; k++) {
            int image = k;
            looks.add(new Look("IMAGE " + k, x -> restored(x, image), false, 0));
        }
        looks.add(new Look("the tape", x -> readWith(x, ""), false, 0));
        looks.add(new Look("the tape, with a sign more", x -> readWith(x, ";"), false, 0));
        for (int row = 0; row < 8; row++) {
            looks.add(new Look("ROW " + row, x -> x, true, row));
        }
        return looks;
    }

    private static KiteTrays undone(KiteTrays x, int times) {
        for (int n = 0; n < times; n++) {
            x.undo();
        }
        return x;
    }

    private static KiteTrays restored(KiteTrays x, int image) {
        x.restore(image);
        return x;
    }

    private static KiteTrays readWith(KiteTrays x, String more) {
        Check.read(x, more);
        return x;
    }

    private static long[] seen(Look look, KiteTrays x) {
        KiteTrays ready = look.first.apply(x);
        return look.isOfRows ? row(ready, look.row) : shown(ready);
    }

    /** All that an object shows without being changed, but status(). */
    static long[] shown(KiteTrays x) {
        long[] all = new long[110];
        int n = 0;
        for (int what = 0; what < 8; what++) {
            all[n++] = x.count(what);
        }
        all[n++] = x.fault();
        for (int what = 0; what < 5; what++) {
            all[n++] = x.stand(what);
        }
        for (int on = 0; on < 7; on++) {
            all[n++] = x.force(on);
        }
        for (int i = 0; i < 7; i++) {
            all[n++] = x.kind(i);
            for (int what = 0; what < 7; what++) {
                all[n++] = x.paper(i, what);
            }
        }
        for (int i = 0; i < 17; i++) {
            all[n++] = x.trace(i);
        }
        all[n++] = x.quarrels(0);
        all[n++] = x.quarrels(1);
        return all;
    }

    /** A ROW: its ITEMS, as far as a PAPER can be so HIGH, its LANE and its size. */
    static long[] row(KiteTrays x, int row) {
        long[] all = new long[45];
        int n = 0;
        watchLeaflet(x);
        for (int i = 0; i <= 40; i++) {
            all[n++] = x.who(0, 3, row, i, 1);
        }
        int other = (row + 1) % 8;
        for (int lane = 0; lane < 3; lane++) {
            x.row(other, lane, 0);
            all[n++] = x.copy(row, 0, other, 0, 0);
        }
        all[n] = x.drop(row);
        return all;
    }

    /**
     * ITEMS can be seen only by what fits them: a leaflet with 40 OUT, in a wind of 9, is 36 less its WEIGHT higher behind
     * one HOUR, so the least WEIGHT that fits tells the ITEM.
     */
    static void watchLeaflet(KiteTrays x) {
        x.roof();
        Check.read(x, "r1,99;w9;l0,1;");
        x.send(0, 40);
    }

    /** ITEMS (0 to 35) of a ROW are these. */
    void items(String when, KiteTrays x, int row, int... items) {
        watchLeaflet(x);
        for (int i = 0; i < items.length; i++) {
            check.due(when + ": ITEM " + i + " of " + row, 36 - x.who(0, 3, row, i, 1), items[i]);
        }
    }
}
