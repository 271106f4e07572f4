import java.util.ArrayList;
import java.util.Arrays;
import java.util.List;

/**
 * The document told a second time, in another form than the program: a cut is
 * an exception, and a patch is read again from its first byte at each feed.
 */
final class Model {
    private static final class PowerWent extends RuntimeException {
        private static final long serialVersionUID = 1L;
    }

    final int[] flash = new int[240];
    private boolean power = false;
    private int runs = 0;
    private int cut = -1;
    private int operations = 0;
    private int writes = 0;
    private List<Integer> fed = null;
    private int version;
    private int length;
    private int made;
    private int place;

    Model() {
        Arrays.fill(flash, 255);
    }

    int factory(int v, int l, int seed) {
        if (v < 1 || v > 250 || l < 8 || l > 96) {
            return 0;
        }
        Arrays.fill(flash, 255);
        int s = seed;
        for (int i = 4; i < l; i++) {
            s = s * 1103515245 + 12345;
            flash[i] = (s >>> 16) & 255;
        }
        flash[0] = 165;
        flash[1] = v;
        flash[2] = l;
        flash[3] = Check.sum(flash, 0, v, l);
        cut = -1;
        dark();
        return 1;
    }

    int boot() {
        dark();
        power = true;
        try {
            load();
            runs = version(0);
            return runs;
        } catch (PowerWent e) {
            dark();
            return -2;
        }
    }

    private void load() {
        boolean asked = flash[208] != 255;
        boolean tried = flash[209] != 255;
        boolean confirmed = flash[210] != 255;
        boolean started = flash[211] != 255;
        if (flash[224] != 255) {
            back();
        } else if (asked && !tried) {
            if (steps(208) == 0 && version(1) == 0) {
                erase(208);
            } else {
                change(208);
                write(209, 0);
            }
        } else if (asked && confirmed) {
            erase(208);
        } else if (asked && started) {
            write(224, 15);
            back();
        }
        if (flash[208] == 15 && flash[209] == 0) {
            write(211, 0);
        }
    }

    private void back() {
        change(224);
        erase(208);
        erase(224);
    }

    private void change(int log) {
        for (int p = 0; p < 6; p++) {
            step(log, 3 * p, 16 * p, 192);
            step(log, 3 * p + 1, 96 + 16 * p, 16 * p);
            step(log, 3 * p + 2, 192, 96 + 16 * p);
        }
    }

    private void step(int log, int k, int from, int to) {
        int at = log + 4 + k / 8;
        int bit = 1 << (k % 8);
        if ((flash[at] & bit) != 0) {
            erase(to);
            for (int i = 0; i < 16; i++) {
                if (flash[from + i] != 255) {
                    write(to + i, flash[from + i]);
                }
            }
            write(at, 255 - bit);
        }
    }

    int off() {
        int was = power ? 1 : 0;
        dark();
        return was;
    }

    int cut(int k) {
        if (k < 0 || k > 1000) {
            return 0;
        }
        cut = k;
        return 1;
    }

    int safe() {
        int left = cut;
        cut = -1;
        return left;
    }

    int begin(int v, int l) {
        if (runs == 0 || v < 1 || v > 250 || l < 8 || l > 96 || flash[208] != 255 || flash[224] != 255) {
            return -1;
        }
        try {
            for (int a = 96; a < 192; a += 16) {
                erase(a);
            }
        } catch (PowerWent e) {
            dark();
            return -2;
        }
        fed = new ArrayList<>();
        version = v;
        length = l;
        made = 4;
        place = 4;
        return 4;
    }

    int feed(long bytes, int n) {
        if (fed == null || made == length || n < 1 || n > 8) {
            return -1;
        }
        for (int i = 0; i < n; i++) {
            fed.add((int) ((bytes >> (8 * i)) & 255));
        }
        int[] image = new int[96];
        int ready = readPatch(image);
        try {
            for (int i = made; i < ready; i++) {
                write(96 + i, image[i]);
            }
            made = ready;
            if (made == length) {
                write(99, Check.sum(flash, 96, version, length));
                write(98, length);
                write(97, version);
                write(96, 165);
            }
            return made;
        } catch (PowerWent e) {
            dark();
            return -2;
        }
    }

    /** Fills in what all that was fed makes; the next byte to be made. */
    private int readPatch(int[] image) {
        int at = 4;
        place = 4;
        int i = 0;
        while (i < fed.size() && at < length) {
            int kind = fed.get(i) / 64;
            int n = fed.get(i) % 64 + 1;
            i++;
            if (kind == 1) {
                if (i < fed.size()) {
                    place = fed.get(i++);
                }
                continue;
            }
            for (; n > 0 && at < length && (kind == 0 || i < fed.size()); n--) {
                int value = kind == 0 ? 0 : fed.get(i++);
                if (kind != 2) {
                    value += place < 96 ? flash[place] : 0;
                    place++;
                }
                image[at++] = value % 256;
            }
        }
        return at;
    }

    int request() {
        if (runs == 0 || flash[208] != 255 || flash[224] != 255) {
            return -1;
        }
        return version(1) == 0 ? 0 : writeAlone(208, 15);
    }

    int confirm() {
        if (runs == 0 || flash[209] != 0 || flash[210] == 0) {
            return -1;
        }
        return writeAlone(210, 0);
    }

    private int writeAlone(int address, int value) {
        try {
            write(address, value);
            return 1;
        } catch (PowerWent e) {
            dark();
            return -2;
        }
    }

    int version(int which) {
        if (which != 0 && which != 1) {
            return -1;
        }
        int start = 96 * which;
        int v = flash[start + 1];
        int l = flash[start + 2];
        boolean valid = flash[start] == 165 && v >= 1 && v <= 250 && l >= 8 && l <= 96
            && flash[start + 3] == Check.sum(flash, start, v, l);
        return valid ? v : 0;
    }

    int state(int what) {
        int[] all = {power ? 1 : 0, runs, fed == null ? 0 : made, fed == null ? 0 : place, steps(208), steps(224),
            operations, writes};
        return what < 0 || what >= all.length ? -1 : all[what];
    }

    private int steps(int log) {
        return 24 - Integer.bitCount(flash[log + 4]) - Integer.bitCount(flash[log + 5])
            - Integer.bitCount(flash[log + 6]);
    }

    private void dark() {
        power = false;
        runs = 0;
        fed = null;
    }

    private void operate() {
        if (cut == 0) {
            cut = -1;
            throw new PowerWent();
        }
        cut -= cut > 0 ? 1 : 0;
        operations++;
    }

    private void erase(int start) {
        operate();
        Arrays.fill(flash, start, start + 16, 255);
    }

    private void write(int address, int value) {
        operate();
        writes++;
        flash[address] &= value;
    }
}
