import java.util.Arrays;
import java.util.NoSuchElementException;

/**
 * An updater that the power may leave at any moment: a patch makes a new image
 * out of the old one, a loader changes both page by page and knows after every
 * cut how far it was; a new image that is not confirmed is changed back.
 */
public final class SwapLoader {
    public static final int BAD = -1;
    public static final int GONE = -2;

    private static final int PAGE_BYTES = 16;
    private static final int FLASH_BYTES = 15 * PAGE_BYTES;
    private static final int IMAGE_PAGES = 6;
    private static final int IMAGE_BYTES = IMAGE_PAGES * PAGE_BYTES;
    private static final int ERASED = 255;
    private static final int BYTE_MASK = 255;

    private static final int MAIN_PAGE = 0;
    private static final int NEXT_PAGE = 6;
    private static final int SPARE_PAGE = 12;
    private static final int TRIAL_LOG = 13;
    private static final int RETURN_LOG = 14;
    private static final int MAIN_START = MAIN_PAGE * PAGE_BYTES;
    private static final int NEXT_START = NEXT_PAGE * PAGE_BYTES;

    private static final int IMAGE_MARK = 165;
    private static final int MARK_AT = 0;
    private static final int VERSION_AT = 1;
    private static final int LENGTH_AT = 2;
    private static final int SUM_AT = 3;
    private static final int BODY_AT = 4;
    private static final int MAX_VERSION = 250;
    private static final int MIN_LENGTH = 8;

    private static final int MAX_CUT = 1000;
    private static final int NO_CUT = -1;
    private static final int MAX_FED = 8;

    private final Flash flash;
    private final Loader loader;
    private final Patch patch;
    private boolean powered;
    private int running;

    public SwapLoader() {
        flash = new Flash();
        loader = new Loader(flash);
        patch = new Patch(flash);
        powered = false;
        running = 0;
    }

    public boolean factory(int version, int length, int seed) {
        if (!isImageSize(version, length)) {
            return false;
        }
        losePower();
        flash.clearCut();
        flash.reset();
        flash.placeFactoryImage(version, length, seed);
        return true;
    }

    public int boot() {
        losePower();
        powered = true;
        if (!loader.followLogs() || !loader.markStarted()) {
            return powerGone();
        }
        running = flash.validVersion(MAIN_START);
        return running;
    }

    public boolean off() {
        boolean was = powered;
        losePower();
        return was;
    }

    public boolean cut(int k) {
        if (k < 0 || k > MAX_CUT) {
            return false;
        }
        flash.setCut(k);
        return true;
    }

    public int safe() {
        int left = flash.cutLeft();
        flash.clearCut();
        return left;
    }

    public int begin(int version, int length) {
        if (running == 0 || !isImageSize(version, length) || loader.isBusy()) {
            return BAD;
        }
        for (int p = 0; p < IMAGE_PAGES; p++) {
            if (!flash.erasePage(NEXT_PAGE + p)) {
                return powerGone();
            }
        }
        patch.start(version, length);
        return patch.nextByte();
    }

    public int feed(long bytes, int n) {
        if (n < 1 || n > MAX_FED || !patch.isOpen()) {
            return BAD;
        }
        for (int i = 0; i < n && patch.isOpen(); i++) {
            int fed = (int) (bytes >>> (8 * i)) & BYTE_MASK;
            if (!patch.take(fed)) {
                return powerGone();
            }
        }
        if (!patch.isOpen() && !patch.seal()) {
            return powerGone();
        }
        return patch.nextByte();
    }

    public int request() {
        if (running == 0 || loader.isBusy()) {
            return BAD;
        }
        if (flash.validVersion(NEXT_START) == 0) {
            return 0;
        }
        return loader.askForChange() ? 1 : powerGone();
    }

    public int confirm() {
        if (running == 0 || !loader.awaitsConfirmation()) {
            return BAD;
        }
        return loader.markConfirmed() ? 1 : powerGone();
    }

    public int byteAt(int address) throws NoSuchElementException {
        if (address < 0 || address >= FLASH_BYTES) {
            throw new NoSuchElementException();
        }
        return flash.read(address);
    }

    public int version(int which) {
        switch (which) {
            case 0:
                return flash.validVersion(MAIN_START);
            case 1:
                return flash.validVersion(NEXT_START);
            default:
                return BAD;
        }
    }

    public int state(int what) {
        switch (what) {
            case 0:
                return powered ? 1 : 0;
            case 1:
                return running;
            case 2:
                return patch.nextByte();
            case 3:
                return patch.currentPlace();
            case 4:
                return loader.stepsDone(TRIAL_LOG);
            case 5:
                return loader.stepsDone(RETURN_LOG);
            case 6:
                return flash.operationCount();
            case 7:
                return flash.writeCount();
            default:
                return BAD;
        }
    }

    private static boolean isImageSize(int version, int length) {
        return version >= 1 && version <= MAX_VERSION && length >= MIN_LENGTH && length <= IMAGE_BYTES;
    }

    private void losePower() {
        powered = false;
        running = 0;
        patch.end();
    }

    private int powerGone() {
        losePower();
        return GONE;
    }

    /**
     * The bytes that outlast the power. An operation answers false when the cut
     * came before it: whoever asked for it then stops at once.
     */
    private static final class Flash {
        private final int[] bytes;
        private int cutLeft;
        private int operations;
        private int writes;

        Flash() {
            bytes = new int[FLASH_BYTES];
            Arrays.fill(bytes, ERASED);
            cutLeft = NO_CUT;
            operations = 0;
            writes = 0;
        }

        void reset() {
            Arrays.fill(bytes, ERASED);
        }

        /** The factory sets bytes without operations, so nothing is counted or cut. */
        void placeFactoryImage(int version, int length, int seed) {
            int drawn = seed;
            for (int i = BODY_AT; i < length; i++) {
                drawn = drawn * 1103515245 + 12345;
                bytes[MAIN_START + i] = (drawn >>> 16) & BYTE_MASK;
            }
            bytes[MAIN_START + SUM_AT] = sumOf(MAIN_START, version, length);
            bytes[MAIN_START + LENGTH_AT] = length;
            bytes[MAIN_START + VERSION_AT] = version;
            bytes[MAIN_START + MARK_AT] = IMAGE_MARK;
        }

        int sumOf(int start, int version, int length) {
            int sum = 7;
            sum = (31 * sum + version) & BYTE_MASK;
            sum = (31 * sum + length) & BYTE_MASK;
            for (int i = BODY_AT; i < length; i++) {
                sum = (31 * sum + bytes[start + i]) & BYTE_MASK;
            }
            return sum;
        }

        /** 0 when there is no valid image: no image has that version. */
        int validVersion(int start) {
            int version = bytes[start + VERSION_AT];
            int length = bytes[start + LENGTH_AT];
            if (bytes[start + MARK_AT] != IMAGE_MARK || !isImageSize(version, length)) {
                return 0;
            }
            return bytes[start + SUM_AT] == sumOf(start, version, length) ? version : 0;
        }

        int read(int address) {
            return bytes[address];
        }

        boolean erasePage(int page) {
            if (!spendOperation()) {
                return false;
            }
            int start = page * PAGE_BYTES;
            for (int i = 0; i < PAGE_BYTES; i++) {
                bytes[start + i] = ERASED;
            }
            return true;
        }

        boolean writeByte(int address, int value) {
            if (!spendOperation()) {
                return false;
            }
            writes++;
            bytes[address] &= value;
            return true;
        }

        boolean movePage(int from, int to) {
            if (!erasePage(to)) {
                return false;
            }
            for (int i = 0; i < PAGE_BYTES; i++) {
                int value = bytes[from * PAGE_BYTES + i];
                if (value != ERASED && !writeByte(to * PAGE_BYTES + i, value)) {
                    return false;
                }
            }
            return true;
        }

        void setCut(int after) {
            cutLeft = after;
        }

        void clearCut() {
            cutLeft = NO_CUT;
        }

        int cutLeft() {
            return cutLeft;
        }

        int operationCount() {
            return operations;
        }

        int writeCount() {
            return writes;
        }

        private boolean spendOperation() {
            if (cutLeft == 0) {
                cutLeft = NO_CUT;
                return false;
            }
            if (cutLeft > 0) {
                cutLeft--;
            }
            operations++;
            return true;
        }
    }

    /**
     * What the logs say and what booting does by them. Whatever may be cut
     * answers false when the power went.
     */
    private static final class Loader {
        private static final int REQUEST_AT = 0;
        private static final int TRIED_AT = 1;
        private static final int CONFIRMED_AT = 2;
        private static final int STARTED_AT = 3;
        private static final int PROGRESS_AT = 4;
        private static final int CHANGE = 15;
        private static final int SO = 0;
        private static final int STEPS = 3 * IMAGE_PAGES;

        private final Flash flash;

        Loader(Flash flash) {
            this.flash = flash;
        }

        boolean isBusy() {
            return hasRequest(TRIAL_LOG) || hasRequest(RETURN_LOG);
        }

        boolean askForChange() {
            return writeLog(TRIAL_LOG, REQUEST_AT, CHANGE);
        }

        boolean awaitsConfirmation() {
            return isSo(TRIED_AT) && !isSo(CONFIRMED_AT);
        }

        boolean markConfirmed() {
            return writeLog(TRIAL_LOG, CONFIRMED_AT, SO);
        }

        boolean followLogs() {
            if (hasRequest(RETURN_LOG)) {
                return changeBack();
            }
            if (!hasRequest(TRIAL_LOG)) {
                return true;
            }
            if (!isSo(TRIED_AT)) {
                return tryNext();
            }
            if (isSo(CONFIRMED_AT)) {
                return flash.erasePage(TRIAL_LOG);
            }
            if (isSo(STARTED_AT)) {
                return writeLog(RETURN_LOG, REQUEST_AT, CHANGE) && changeBack();
            }
            return true;
        }

        boolean markStarted() {
            if (hasRequest(TRIAL_LOG) && isSo(TRIED_AT)) {
                return writeLog(TRIAL_LOG, STARTED_AT, SO);
            }
            return true;
        }

        int stepsDone(int log) {
            int done = 0;
            for (int step = 0; step < STEPS; step++) {
                if (isStepDone(log, step)) {
                    done++;
                }
            }
            return done;
        }

        private boolean tryNext() {
            if (stepsDone(TRIAL_LOG) == 0 && flash.validVersion(NEXT_START) == 0) {
                return flash.erasePage(TRIAL_LOG);
            }
            return change(TRIAL_LOG) && writeLog(TRIAL_LOG, TRIED_AT, SO);
        }

        /** The log of the way back goes last: a cut before that finds it again. */
        private boolean changeBack() {
            return change(RETURN_LOG) && flash.erasePage(TRIAL_LOG) && flash.erasePage(RETURN_LOG);
        }

        private boolean change(int log) {
            for (int step = 0; step < STEPS; step++) {
                if (isStepDone(log, step)) {
                    continue;
                }
                if (!flash.movePage(sourceOf(step), targetOf(step))) {
                    return false;
                }
                if (!writeLog(log, PROGRESS_AT + step / 8, BYTE_MASK ^ bitOf(step))) {
                    return false;
                }
            }
            return true;
        }

        private static int sourceOf(int step) {
            switch (step % 3) {
                case 0:
                    return MAIN_PAGE + step / 3;
                case 1:
                    return NEXT_PAGE + step / 3;
                default:
                    return SPARE_PAGE;
            }
        }

        private static int targetOf(int step) {
            switch (step % 3) {
                case 0:
                    return SPARE_PAGE;
                case 1:
                    return MAIN_PAGE + step / 3;
                default:
                    return NEXT_PAGE + step / 3;
            }
        }

        private static int bitOf(int step) {
            return 1 << (step % 8);
        }

        private boolean isStepDone(int log, int step) {
            return (readLog(log, PROGRESS_AT + step / 8) & bitOf(step)) == 0;
        }

        private boolean hasRequest(int log) {
            return readLog(log, REQUEST_AT) == CHANGE;
        }

        /** Only the log of the trial has these marks. */
        private boolean isSo(int mark) {
            return readLog(TRIAL_LOG, mark) == SO;
        }

        private int readLog(int log, int at) {
            return flash.read(log * PAGE_BYTES + at);
        }

        private boolean writeLog(int log, int at, int value) {
            return flash.writeByte(log * PAGE_BYTES + at, value);
        }
    }

    /** The patch that there is, or none: one object for all patches of a loader. */
    private static final class Patch {
        private static final int NONE = 0;
        private static final int AWAITS_COMMAND = 0;
        private static final int AWAITS_PLACE = 1;
        private static final int AWAITS_ADDED = 2;
        private static final int AWAITS_DIFFERENCE = 3;

        private final Flash flash;
        private int version;
        private int length;
        private int next;
        private int place;
        private int awaited;
        private int stillFed;

        Patch(Flash flash) {
            this.flash = flash;
            next = NONE;
            place = NONE;
        }

        void start(int newVersion, int newLength) {
            version = newVersion;
            length = newLength;
            next = BODY_AT;
            place = BODY_AT;
            awaited = AWAITS_COMMAND;
            stillFed = 0;
        }

        void end() {
            next = NONE;
            place = NONE;
        }

        boolean isOpen() {
            return next != NONE && next < length;
        }

        int nextByte() {
            return next;
        }

        int currentPlace() {
            return place;
        }

        /** One byte fed to an open patch; false when the power went. */
        boolean take(int fed) {
            switch (awaited) {
                case AWAITS_PLACE:
                    place = fed;
                    awaited = AWAITS_COMMAND;
                    return true;
                case AWAITS_ADDED:
                    countFed();
                    return make(fed);
                case AWAITS_DIFFERENCE:
                    countFed();
                    return make((fed + takeFromMain()) & BYTE_MASK);
                default:
                    return obey(fed);
            }
        }

        /** The mark goes last: an image that a cut left behind is not valid. */
        boolean seal() {
            int sum = flash.sumOf(NEXT_START, version, length);
            return flash.writeByte(NEXT_START + SUM_AT, sum)
                && flash.writeByte(NEXT_START + LENGTH_AT, length)
                && flash.writeByte(NEXT_START + VERSION_AT, version)
                && flash.writeByte(NEXT_START + MARK_AT, IMAGE_MARK);
        }

        private boolean obey(int command) {
            int count = Math.min(command % 64 + 1, length - next);
            switch (command / 64) {
                case 0:
                    return copy(count);
                case 1:
                    awaited = AWAITS_PLACE;
                    return true;
                case 2:
                    awaited = AWAITS_ADDED;
                    stillFed = count;
                    return true;
                default:
                    awaited = AWAITS_DIFFERENCE;
                    stillFed = count;
                    return true;
            }
        }

        private boolean copy(int count) {
            for (int i = 0; i < count; i++) {
                if (!make(takeFromMain())) {
                    return false;
                }
            }
            return true;
        }

        private void countFed() {
            stillFed--;
            if (stillFed == 0) {
                awaited = AWAITS_COMMAND;
            }
        }

        private int takeFromMain() {
            int taken = place < IMAGE_BYTES ? flash.read(MAIN_START + place) : 0;
            place++;
            return taken;
        }

        private boolean make(int value) {
            if (!flash.writeByte(NEXT_START + next, value)) {
                return false;
            }
            next++;
            return true;
        }
    }
}
