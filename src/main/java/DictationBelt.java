/** A dictation belt; the document ../shared/DOC.md says what each public member must do. */
public final class DictationBelt {
    public static final int NONE = -1;

    private static final int CELLS = 32;
    private static final int MOST_RECORDINGS = 10;
    private static final int TOP_SOUND = 99;
    private static final int LONGEST_STEP_BACK = 9;
    private static final int LONGEST_TEXT = 60;
    private static final int LOWEST_CODE = 33;
    private static final int HIGHEST_CODE = 126;
    private static final int MOST_SAVED = 6;
    private static final long FIRST_HASH = 4444L;

    private final State now;
    // A ring of rows that are made once: the slot behind the newest is written next.
    private final State[] saved;
    private int nextSlot;
    private int savedCount;
    private final OrderText text;

    public DictationBelt() {
        now = new State();
        saved = new State[MOST_SAVED];
        for (int slot = 0; slot < MOST_SAVED; slot++) {
            saved[slot] = new State();
        }
        nextSlot = 0;
        savedCount = 0;
        text = new OrderText();
    }

    // ---- recording

    public int begin() throws IllegalStateException {
        if (!now.mayBegin()) {
            throw new IllegalStateException("there are 10 recordings");
        }
        save();
        return now.beginRecording();
    }

    public int halt() throws IllegalStateException {
        if (!now.isRunning) {
            throw new IllegalStateException("no recording is running");
        }
        save();
        return now.stopRecording();
    }

    public int speak(int sound) throws IllegalArgumentException, IllegalStateException {
        requireSound(sound);
        if (!now.maySpeak(1)) {
            throw new IllegalStateException("no recording is running, or the belt is full");
        }
        save();
        return now.speakTimes(1, sound);
    }

    public boolean setFlag(int recording, boolean isSet) throws IndexOutOfBoundsException {
        requireRecording(recording);
        save();
        boolean before = now.isFlagged(recording);
        now.putFlag(recording, isSet);
        return before;
    }

    public int erase(int recording) throws IndexOutOfBoundsException, IllegalStateException {
        requireRecording(recording);
        if (now.isFlagged(recording)) {
            throw new IllegalStateException("the recording has a flag");
        }
        save();
        return now.eraseRecording(recording);
    }

    public int moveHead(int cell) throws IndexOutOfBoundsException, IllegalStateException {
        requireCell(cell);
        if (now.isRunning) {
            throw new IllegalStateException("a recording is running");
        }
        save();
        int before = now.head;
        now.head = cell;
        return before;
    }

    // ---- queries

    public int recordings() {
        return now.count;
    }

    public int running() {
        return now.runningNumber();
    }

    public int head() {
        return now.head;
    }

    public int length(int recording) throws IndexOutOfBoundsException {
        requireRecording(recording);
        return now.cellCount(recording);
    }

    public int sound(int recording, int place) throws IndexOutOfBoundsException {
        requirePlace(recording, place);
        return valueAt(now.sounds, now.cellAt(recording, place));
    }

    public int cellOf(int recording, int place) throws IndexOutOfBoundsException {
        requirePlace(recording, place);
        return now.cellAt(recording, place);
    }

    public boolean hasFlag(int recording) throws IndexOutOfBoundsException {
        requireRecording(recording);
        return now.isFlagged(recording);
    }

    public int lost(int recording) throws IndexOutOfBoundsException {
        requireRecording(recording);
        return valueAt(now.losses, recording);
    }

    public int owner(int cell) throws IndexOutOfBoundsException {
        requireCell(cell);
        return valueAt(now.owners, cell);
    }

    public int free() {
        return CELLS - now.used;
    }

    public int spoken() {
        return now.spoken;
    }

    public int gone() {
        return now.gone;
    }

    public double usedShare() {
        return (double) now.used / CELLS;
    }

    // ---- player

    public int go(int recording) throws IndexOutOfBoundsException {
        requireRecording(recording);
        save();
        now.bringPlayer(recording);
        return now.cellCount(recording);
    }

    public int play() throws IllegalStateException {
        requirePlayer();
        save();
        return now.playCell();
    }

    public int back(int cells) throws IllegalArgumentException, IllegalStateException {
        if (cells < 1 || cells > LONGEST_STEP_BACK) {
            throw new IllegalArgumentException("the pedal goes back by 1 to 9 cells");
        }
        requirePlayer();
        save();
        return now.stepBack(cells);
    }

    public int playing() {
        return now.player;
    }

    public int place() {
        return now.place;
    }

    // ---- corrections

    public int correct(int recording, int place, int sound)
            throws IndexOutOfBoundsException, IllegalArgumentException, IllegalStateException {
        requirePlace(recording, place);
        int cell = now.cellAt(recording, place);
        requireCell(cell);
        requireSound(sound);
        if (now.isFlagged(recording)) {
            throw new IllegalStateException("the recording has a flag");
        }
        save();
        int before = valueAt(now.sounds, cell);
        putAt(now.sounds, cell, sound);
        return before;
    }

    public int carbon(int recording, int place) throws IndexOutOfBoundsException {
        requirePlace(recording, place);
        return valueAt(now.carbons, now.cellAt(recording, place));
    }

    public int corrected() {
        return now.correctedCells();
    }

    // ---- forecasts; they change nothing

    public int room() {
        return now.writableCells();
    }

    public int nextLoser() {
        return now.firstLoser();
    }

    public int lossOf(int recording, int sounds)
            throws IndexOutOfBoundsException, IllegalArgumentException {
        requireRecording(recording);
        requireForecast(sounds);
        return now.lossAfter(recording, sounds);
    }

    public int goneAfter(int sounds) throws IllegalArgumentException {
        requireForecast(sounds);
        int goers = 0;
        for (int recording = 0; recording < now.count; recording++) {
            int loss = now.lossAfter(recording, sounds);
            if (loss > 0 && loss == now.cellCount(recording)) {
                goers++;
            }
        }
        return goers;
    }

    // ---- order text

    public int append(int code) throws IllegalArgumentException, IllegalStateException {
        if (code < LOWEST_CODE || code > HIGHEST_CODE) {
            throw new IllegalArgumentException("a character code is 33 to 126");
        }
        if (text.length >= LONGEST_TEXT) {
            throw new IllegalStateException("the buffer contains 60 characters");
        }
        text.add(code);
        return text.length;
    }

    public int clearText() {
        int before = text.length;
        text.length = 0;
        return before;
    }

    public int firstError() {
        return text.errorIndex();
    }

    public int run() throws IllegalArgumentException {
        if (!text.isComplete()) {
            throw new IllegalArgumentException("the buffer is not a complete order text");
        }
        save();
        int executed = obeyOrders();
        text.length = 0;
        return executed;
    }

    // ---- undo

    public int undo() throws IllegalStateException {
        if (savedCount == 0) {
            throw new IllegalStateException("no state is saved");
        }
        nextSlot = nextSlot == 0 ? MOST_SAVED - 1 : nextSlot - 1;
        savedCount--;
        State newest = slotAt(nextSlot);
        if (newest != null) {
            now.copyFrom(newest);
        }
        return savedCount;
    }

    public int savedStates() {
        return savedCount;
    }

    public long digest() {
        long hash = FIRST_HASH;
        hash = mixed(hash, recordings());
        hash = mixed(hash, running());
        hash = mixed(hash, head());
        hash = mixed(hash, free());
        hash = mixed(hash, spoken());
        hash = mixed(hash, gone());
        hash = mixed(hash, playing());
        hash = mixed(hash, place());
        hash = mixed(hash, corrected());
        hash = mixed(hash, room());
        hash = mixed(hash, nextLoser());
        for (int recording = 0; recording < now.count; recording++) {
            hash = withRecording(hash, recording);
        }
        for (int cell = 0; cell < CELLS; cell++) {
            hash = mixed(hash, valueAt(now.owners, cell));
        }
        return hash;
    }

    private long withRecording(long start, int recording) {
        long hash = mixed(start, now.cellCount(recording));
        hash = mixed(hash, now.isFlagged(recording) ? 1 : 0);
        hash = mixed(hash, valueAt(now.losses, recording));
        for (int i = 0; i < now.used; i++) {
            int cell = valueAt(now.order, i);
            if (valueAt(now.owners, cell) == recording) {
                hash = mixed(hash, cell);
                hash = mixed(hash, valueAt(now.sounds, cell));
                hash = mixed(hash, valueAt(now.carbons, cell));
            }
        }
        return hash;
    }

    private static long mixed(long hash, long value) {
        return 31L * hash + value;
    }

    private void save() {
        State slot = slotAt(nextSlot);
        if (slot != null) {
            slot.copyFrom(now);
        }
        nextSlot = nextSlot + 1 < MOST_SAVED ? nextSlot + 1 : 0;
        if (savedCount < MOST_SAVED) {
            savedCount++;
        }
    }

    private State slotAt(int slot) {
        return slot >= 0 && slot < saved.length ? saved[slot] : null;
    }

    private int obeyOrders() {
        int executed = 0;
        int letter = NONE;
        int times = 0;
        int number = 0;
        int end = Math.min(text.length, LONGEST_TEXT);
        // One step beyond the text: its end closes the last order as a ";" would.
        for (int i = 0; i <= end; i++) {
            int code = i < end ? valueAt(text.codes, i) : ';';
            if (code == ';') {
                if (!mayObey(letter, times, number)) {
                    return executed;
                }
                obey(letter, times, number);
                executed++;
                letter = NONE;
                times = 0;
                number = 0;
            } else if (code == '=') {
                times = number;
                number = 0;
            } else if (letter == NONE) {
                letter = code;
            } else {
                number = 10 * number + (code - '0');
            }
        }
        return executed;
    }

    private boolean mayObey(int letter, int times, int number) {
        switch (letter) {
            case 'b':
                return now.mayBegin();
            case 'h':
                return now.isRunning;
            case 's':
                return now.maySpeak(1);
            case 'r':
                return now.maySpeak(times);
            case 'f':
            case 'u':
            case 'g':
                return now.isRecording(number);
            case 'e':
                return now.isRecording(number) && !now.isFlagged(number);
            case 'p':
            case 'k':
                return now.player != NONE;
            default:
                return false;
        }
    }

    private void obey(int letter, int times, int number) {
        switch (letter) {
            case 'b':
                now.beginRecording();
                break;
            case 'h':
                now.stopRecording();
                break;
            case 's':
                now.speakTimes(1, number);
                break;
            case 'r':
                now.speakTimes(times, number);
                break;
            case 'f':
                now.putFlag(number, true);
                break;
            case 'u':
                now.putFlag(number, false);
                break;
            case 'e':
                now.eraseRecording(number);
                break;
            case 'g':
                now.bringPlayer(number);
                break;
            case 'p':
                now.playCell();
                break;
            case 'k':
                now.stepBack(number);
                break;
            default:
                break;
        }
    }

    private void requireRecording(int recording) {
        if (!now.isRecording(recording)) {
            throw new IndexOutOfBoundsException("there is no such recording");
        }
    }

    private void requirePlace(int recording, int place) {
        if (!now.isRecording(recording) || place < 0) {
            throw new IndexOutOfBoundsException("there is no such recording or place");
        }
    }

    private void requirePlayer() {
        if (now.player == NONE) {
            throw new IllegalStateException("the player is nowhere");
        }
    }

    private static void requireCell(int cell) {
        if (cell < 0 || cell >= CELLS) {
            throw new IndexOutOfBoundsException("there is no such cell");
        }
    }

    private static void requireSound(int sound) {
        if (sound < 0 || sound > TOP_SOUND) {
            throw new IllegalArgumentException("a sound is 0 to 99");
        }
    }

    private static void requireForecast(int sounds) {
        if (sounds < 1 || sounds > CELLS) {
            throw new IllegalArgumentException("a forecast is for 1 to 32 sounds");
        }
    }

    private static int valueAt(int[] row, int index) {
        return index >= 0 && index < row.length ? row[index] : NONE;
    }

    private static void putAt(int[] row, int index, int value) {
        if (index >= 0 && index < row.length) {
            row[index] = value;
        }
    }

    /** All that undo restores. */
    private static final class State {
        final int[] owners;
        final int[] sounds;
        final int[] carbons;
        // The used cells of all recordings in the order in which they were written; one row
        // for all, because then a change of the recordings' numbers leaves it as it is.
        final int[] order;
        int used;
        final int[] flags;
        final int[] losses;
        int count;
        // The running recording is always the last one, so its number need not be kept.
        boolean isRunning;
        int head;
        int spoken;
        int gone;
        int player;
        int place;

        State() {
            owners = new int[CELLS];
            for (int cell = 0; cell < CELLS; cell++) {
                owners[cell] = NONE;
            }
            sounds = new int[CELLS];
            carbons = new int[CELLS];
            order = new int[CELLS];
            used = 0;
            flags = new int[MOST_RECORDINGS];
            losses = new int[MOST_RECORDINGS];
            count = 0;
            isRunning = false;
            head = 0;
            spoken = 0;
            gone = 0;
            player = NONE;
            place = NONE;
        }

        void copyFrom(State other) {
            System.arraycopy(other.owners, 0, owners, 0, CELLS);
            System.arraycopy(other.sounds, 0, sounds, 0, CELLS);
            System.arraycopy(other.carbons, 0, carbons, 0, CELLS);
            System.arraycopy(other.order, 0, order, 0, CELLS);
            used = other.used;
            System.arraycopy(other.flags, 0, flags, 0, MOST_RECORDINGS);
            System.arraycopy(other.losses, 0, losses, 0, MOST_RECORDINGS);
            count = other.count;
            isRunning = other.isRunning;
            head = other.head;
            spoken = other.spoken;
            gone = other.gone;
            player = other.player;
            place = other.place;
        }

        boolean isRecording(int number) {
            return number >= 0 && number < count;
        }

        int runningNumber() {
            return isRunning ? count - 1 : NONE;
        }

        boolean isFlagged(int recording) {
            return valueAt(flags, recording) == 1;
        }

        void putFlag(int recording, boolean isSet) {
            putAt(flags, recording, isSet ? 1 : 0);
        }

        int cellCount(int recording) {
            int cells = 0;
            for (int cell = 0; cell < CELLS; cell++) {
                if (valueAt(owners, cell) == recording) {
                    cells++;
                }
            }
            return cells;
        }

        int cellAt(int recording, int atPlace) {
            int before = 0;
            for (int i = 0; i < used; i++) {
                int cell = valueAt(order, i);
                if (valueAt(owners, cell) == recording) {
                    if (before == atPlace) {
                        return cell;
                    }
                    before++;
                }
            }
            return NONE;
        }

        boolean mayBegin() {
            return count < MOST_RECORDINGS || (isRunning && cellCount(runningNumber()) == 0);
        }

        int beginRecording() {
            if (isRunning) {
                stopRecording();
            }
            int number = count;
            putAt(flags, number, 0);
            putAt(losses, number, 0);
            count++;
            isRunning = true;
            return number;
        }

        int stopRecording() {
            int number = runningNumber();
            int cells = cellCount(number);
            isRunning = false;
            if (cells == 0) {
                removeRecording(number);
            }
            return cells;
        }

        int eraseRecording(int recording) {
            int cells = 0;
            for (int cell = 0; cell < CELLS; cell++) {
                if (valueAt(owners, cell) == recording) {
                    putAt(owners, cell, NONE);
                    cells++;
                }
            }
            dropFreeCells();
            removeRecording(recording);
            return cells;
        }

        /** Takes the number of a recording without cells away; those behind it move up. */
        void removeRecording(int recording) {
            if (recording == runningNumber()) {
                isRunning = false;
            }
            for (int i = recording; i + 1 < count; i++) {
                putAt(flags, i, valueAt(flags, i + 1));
                putAt(losses, i, valueAt(losses, i + 1));
            }
            count--;
            for (int cell = 0; cell < CELLS; cell++) {
                int number = valueAt(owners, cell);
                if (number > recording) {
                    putAt(owners, cell, number - 1);
                }
            }
            if (player == recording) {
                player = NONE;
                place = NONE;
            } else if (player > recording) {
                player--;
            }
        }

        void dropFreeCells() {
            int kept = 0;
            for (int i = 0; i < used; i++) {
                int cell = valueAt(order, i);
                if (valueAt(owners, cell) != NONE) {
                    putAt(order, kept, cell);
                    kept++;
                }
            }
            used = kept;
        }

        int cellFromHead(int step) {
            return (head + step) % CELLS;
        }

        boolean isWritable(int cell) {
            int recording = valueAt(owners, cell);
            return recording == NONE
                    || (recording != runningNumber() && valueAt(flags, recording) == 0);
        }

        int writableCells() {
            int cells = 0;
            for (int cell = 0; cell < CELLS; cell++) {
                if (isWritable(cell)) {
                    cells++;
                }
            }
            return cells;
        }

        int firstWritable() {
            for (int step = 0; step < CELLS; step++) {
                int cell = cellFromHead(step);
                if (isWritable(cell)) {
                    return cell;
                }
            }
            return NONE;
        }

        int firstLoser() {
            for (int step = 0; step < CELLS; step++) {
                int cell = cellFromHead(step);
                int recording = valueAt(owners, cell);
                if (recording != NONE && isWritable(cell)) {
                    return recording;
                }
            }
            return NONE;
        }

        // A cell that was spoken in is the running recording's and is not written again,
        // so the sounds take the writable cells from the head on, each one once.
        int lossAfter(int recording, int sounds) {
            int left = sounds;
            int loss = 0;
            for (int step = 0; step < CELLS && left > 0; step++) {
                int cell = cellFromHead(step);
                if (isWritable(cell)) {
                    left--;
                    if (valueAt(owners, cell) == recording) {
                        loss++;
                    }
                }
            }
            return loss;
        }

        boolean maySpeak(int times) {
            return isRunning && writableCells() >= times;
        }

        /** Returns the cell that is written last. */
        int speakTimes(int times, int sound) {
            int cell = NONE;
            for (int i = 0; i < times; i++) {
                cell = firstWritable();
                if (cell == NONE) {
                    return NONE;
                }
                loseCell(cell);
                writeCell(cell, sound);
            }
            return cell;
        }

        void loseCell(int cell) {
            int loser = valueAt(owners, cell);
            if (loser == NONE) {
                return;
            }
            if (player == loser && cellsBefore(cell) < place) {
                place--;
            }
            putAt(owners, cell, NONE);
            dropFreeCells();
            putAt(losses, loser, valueAt(losses, loser) + 1);
            if (cellCount(loser) == 0) {
                gone++;
                removeRecording(loser);
            }
        }

        int cellsBefore(int cell) {
            int recording = valueAt(owners, cell);
            int before = 0;
            for (int i = 0; i < used; i++) {
                int other = valueAt(order, i);
                if (other == cell) {
                    return before;
                }
                if (valueAt(owners, other) == recording) {
                    before++;
                }
            }
            return before;
        }

        void writeCell(int cell, int sound) {
            putAt(owners, cell, runningNumber());
            putAt(sounds, cell, sound);
            putAt(carbons, cell, sound);
            putAt(order, used, cell);
            used++;
            head = (cell + 1) % CELLS;
            spoken++;
        }

        void bringPlayer(int recording) {
            player = recording;
            place = 0;
        }

        int playCell() {
            int cell = cellAt(player, place);
            if (cell == NONE) {
                return NONE;
            }
            place++;
            return valueAt(sounds, cell);
        }

        int stepBack(int cells) {
            place = Math.max(0, place - cells);
            return place;
        }

        int correctedCells() {
            int cells = 0;
            for (int cell = 0; cell < CELLS; cell++) {
                if (valueAt(owners, cell) != NONE
                        && valueAt(sounds, cell) != valueAt(carbons, cell)) {
                    cells++;
                }
            }
            return cells;
        }
    }

    /** The buffer, read character by character: a stage tells what may come next. */
    private static final class OrderText {
        private static final int BROKEN = -1;
        private static final int LETTER = 0;
        private static final int CLOSED = 1;
        private static final int SOUND = 2;
        private static final int SOUND_OPEN = 3;
        private static final int TIMES = 4;
        private static final int TIMES_ONE_OR_TWO = 5;
        private static final int TIMES_THREE = 6;
        private static final int TIMES_CLOSED = 7;
        private static final int RECORDING = 8;
        private static final int STEP_BACK = 9;

        final int[] codes;
        int length;

        OrderText() {
            codes = new int[LONGEST_TEXT];
            length = 0;
        }

        void add(int code) {
            putAt(codes, length, code);
            length++;
        }

        int errorIndex() {
            int stage = LETTER;
            for (int i = 0; i < length; i++) {
                stage = stageAfter(stage, valueAt(codes, i));
                if (stage == BROKEN) {
                    return i;
                }
            }
            return length;
        }

        boolean isComplete() {
            int stage = LETTER;
            for (int i = 0; i < length; i++) {
                stage = stageAfter(stage, valueAt(codes, i));
            }
            return stage == CLOSED || stage == SOUND_OPEN;
        }

        private static int stageAfter(int stage, int code) {
            switch (stage) {
                case LETTER:
                    return stageAfterLetter(code);
                case CLOSED:
                    return code == ';' ? LETTER : BROKEN;
                case SOUND:
                    return code == '0' ? CLOSED : isIn(code, '1', '9') ? SOUND_OPEN : BROKEN;
                case SOUND_OPEN:
                    return code == ';' ? LETTER : isIn(code, '0', '9') ? CLOSED : BROKEN;
                case TIMES:
                    return stageAfterFirstOfTimes(code);
                case TIMES_ONE_OR_TWO:
                    return code == '=' ? SOUND : isIn(code, '0', '9') ? TIMES_CLOSED : BROKEN;
                case TIMES_THREE:
                    return code == '=' ? SOUND : isIn(code, '0', '2') ? TIMES_CLOSED : BROKEN;
                case TIMES_CLOSED:
                    return code == '=' ? SOUND : BROKEN;
                case RECORDING:
                    return isIn(code, '0', '9') ? CLOSED : BROKEN;
                case STEP_BACK:
                    return isIn(code, '1', '9') ? CLOSED : BROKEN;
                default:
                    return BROKEN;
            }
        }

        private static int stageAfterLetter(int code) {
            switch (code) {
                case 'b':
                case 'h':
                case 'p':
                    return CLOSED;
                case 's':
                    return SOUND;
                case 'r':
                    return TIMES;
                case 'f':
                case 'u':
                case 'e':
                case 'g':
                    return RECORDING;
                case 'k':
                    return STEP_BACK;
                default:
                    return BROKEN;
            }
        }

        private static int stageAfterFirstOfTimes(int code) {
            if (isIn(code, '1', '2')) {
                return TIMES_ONE_OR_TWO;
            }
            if (code == '3') {
                return TIMES_THREE;
            }
            return isIn(code, '4', '9') ? TIMES_CLOSED : BROKEN;
        }

        private static boolean isIn(int code, int first, int last) {
            return code >= first && code <= last;
        }
    }
}
