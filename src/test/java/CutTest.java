import java.util.ArrayList;
import java.util.List;

/**
 * The power goes after every number of operations of a change and of the way
 * back. What must lie in the flash then is told by a list of all operations,
 * of which the first k are done.
 */
public final class CutTest {
    private static final Check CHECK = new Check("CutTest");
    private static final int ERASE = -1;

    public static void main(String[] args) {
        int[] start = Check.flash(Check.requested());
        List<int[]> forth = change(start, Check.LOG);
        forth.add(new int[] {Check.TRIED, 0});
        forth.add(new int[] {Check.STARTED, 0});
        everyCut("forth", false, start, forth, 8);

        int[] trial = Check.flash(Check.tried());
        List<int[]> back = new ArrayList<>();
        back.add(new int[] {Check.BACK_LOG, 15});
        back.addAll(change(trial, Check.BACK_LOG));
        back.add(new int[] {Check.LOG, ERASE});
        back.add(new int[] {Check.BACK_LOG, ERASE});
        everyCut("back", true, trial, back, 7);
        CHECK.end();
    }

    private static void everyCut(String way, boolean onTrial, int[] before, List<int[]> operations, int version) {
        int[] want = before.clone();
        for (int k = 0; k <= operations.size(); k++) {
            SwapLoader x = onTrial ? Check.tried() : Check.requested();
            int made = x.state(6);
            x.cut(k);
            boolean whole = k == operations.size();
            CHECK.due(way + ": boot cut after " + k, x.boot(), whole ? version : Check.GONE);
            CHECK.dueFlash(way + " cut after " + k, Check.flash(x), want);
            CHECK.due(way + ": operations", x.state(6), made + k);
            CHECK.due(way + ": power", x.state(0), whole ? 1 : 0);
            CHECK.due(way + ": safe", x.safe(), whole ? 0 : -1);
            if (!whole) {
                goesOn(way + " cut after " + k, x, apply(before, operations), version, k);
                perform(want, operations.get(k));
            }
        }
    }

    /** A second cut, then none: in the end all is as if the power had stayed. */
    private static void goesOn(String when, SwapLoader x, int[] atLast, int version, int k) {
        x.cut(k % 40);
        int answer = x.boot();
        if (answer == Check.GONE) {
            answer = x.boot();
        }
        CHECK.due(when + ": runs at last", answer, version);
        int[] flash = Check.flash(x);
        for (int a = 0; a < 240; a++) {
            if (a < Check.SPARE || a >= Check.LOG) {
                CHECK.due(when + ": at last " + a, flash[a], atLast[a]);
            }
        }
    }

    private static List<int[]> change(int[] before, int log) {
        int[] flash = before.clone();
        List<int[]> all = new ArrayList<>();
        for (int p = 0; p < 6; p++) {
            int[][] moves = {{16 * p, Check.SPARE}, {Check.NEXT + 16 * p, 16 * p}, {Check.SPARE, Check.NEXT + 16 * p}};
            for (int m = 0; m < 3; m++) {
                List<int[]> step = new ArrayList<>();
                step.add(new int[] {moves[m][1], ERASE});
                for (int i = 0; i < 16; i++) {
                    if (flash[moves[m][0] + i] != 255) {
                        step.add(new int[] {moves[m][1] + i, flash[moves[m][0] + i]});
                    }
                }
                int k = 3 * p + m;
                step.add(new int[] {log + 4 + k / 8, 255 - (1 << k % 8)});
                flash = apply(flash, step);
                all.addAll(step);
            }
        }
        return all;
    }

    private static int[] apply(int[] before, List<int[]> operations) {
        int[] flash = before.clone();
        for (int[] operation : operations) {
            perform(flash, operation);
        }
        return flash;
    }

    private static void perform(int[] flash, int[] operation) {
        if (operation[1] == ERASE) {
            java.util.Arrays.fill(flash, operation[0], operation[0] + 16, 255);
        } else {
            flash[operation[0]] &= operation[1];
        }
    }
}
