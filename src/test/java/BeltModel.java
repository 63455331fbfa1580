import java.util.ArrayList;
import java.util.List;
import java.util.regex.Pattern;

/**
 * The document once more, in another way: recordings and cells are objects, a forecast speaks on
 * a copy, an undo keeps whole copies, and order texts are read by a regular expression.
 */
final class BeltModel {
    private static final String SOUND = "(0|[1-9][0-9]?)";
    private static final String ORDER = "(b|h|p|s" + SOUND + "|r([1-9]|[12][0-9]|3[0-2])=" + SOUND
            + "|[fueg][0-9]|k[1-9])";
    private static final Pattern TEXT = Pattern.compile(ORDER + "(;" + ORDER + ")*");
    // Every beginning of an order text is ended by one of these.
    private static final String[] ENDS = {"", "b", "0", "1", "=0", "1=0"};

    private static final class Cell {
        final int number;
        int sound;
        final int carbon;

        Cell(int number, int sound, int carbon) {
            this.number = number;
            this.sound = sound;
            this.carbon = carbon;
        }
    }

    private static final class Recording {
        final List<Cell> cells = new ArrayList<>();
        boolean flag;
        int lost;
    }

    /** Everything except the buffer and the saved states. */
    private static final class World {
        final List<Recording> all = new ArrayList<>();
        Recording running;
        Recording player;
        int place;
        int head;
        int spoken;
        int gone;

        World copy() {
            World other = new World();
            for (Recording recording : all) {
                Recording twin = new Recording();
                twin.flag = recording.flag;
                twin.lost = recording.lost;
                for (Cell cell : recording.cells) {
                    twin.cells.add(new Cell(cell.number, cell.sound, cell.carbon));
                }
                other.all.add(twin);
            }
            other.running = running == null ? null : other.all.get(all.indexOf(running));
            other.player = player == null ? null : other.all.get(all.indexOf(player));
            other.place = place;
            other.head = head;
            other.spoken = spoken;
            other.gone = gone;
            return other;
        }

        Recording ownerOf(int number) {
            for (Recording recording : all) {
                for (Cell cell : recording.cells) {
                    if (cell.number == number) {
                        return recording;
                    }
                }
            }
            return null;
        }

        boolean isWritable(int number) {
            Recording owner = ownerOf(number);
            return owner == null || (!owner.flag && owner != running);
        }

        void goAway(Recording recording) {
            all.remove(recording);
            if (running == recording) {
                running = null;
            }
            if (player == recording) {
                player = null;
            }
        }

        int stop() {
            Recording stopped = running;
            running = null;
            if (stopped.cells.isEmpty()) {
                goAway(stopped);
            }
            return stopped.cells.size();
        }

        int start() {
            if (running != null) {
                stop();
            }
            running = new Recording();
            all.add(running);
            return all.size() - 1;
        }

        /** Returns the cell, -1 if the belt is full. */
        int write(int sound) {
            for (int step = 0; step < 32; step++) {
                int number = (head + step) % 32;
                if (isWritable(number)) {
                    lose(number);
                    running.cells.add(new Cell(number, sound, sound));
                    head = (number + 1) % 32;
                    spoken++;
                    return number;
                }
            }
            return -1;
        }

        private void lose(int number) {
            Recording owner = ownerOf(number);
            if (owner == null) {
                return;
            }
            int at = 0;
            while (owner.cells.get(at).number != number) {
                at++;
            }
            owner.cells.remove(at);
            owner.lost++;
            if (owner == player && at < place) {
                place--;
            }
            if (owner.cells.isEmpty()) {
                goAway(owner);
                gone++;
            }
        }
    }

    private World now = new World();
    private final List<World> saved = new ArrayList<>();
    private final StringBuilder text = new StringBuilder();

    private void save() {
        saved.add(now.copy());
        if (saved.size() > 6) {
            saved.remove(0);
        }
    }

    private Recording recording(int number) {
        if (number < 0 || number >= now.all.size()) {
            throw new IndexOutOfBoundsException();
        }
        return now.all.get(number);
    }

    private static void inRange(int value, int low, int high) {
        if (value < low || value > high) {
            throw new IllegalArgumentException();
        }
    }

    private static void isCell(int number) {
        if (number < 0 || number > 31) {
            throw new IndexOutOfBoundsException();
        }
    }

    private static void stateHolds(boolean isSo) {
        if (!isSo) {
            throw new IllegalStateException();
        }
    }

    private boolean mayBegin() {
        return now.all.size() < 10 || (now.running != null && now.running.cells.isEmpty());
    }

    int begin() {
        stateHolds(mayBegin());
        save();
        return now.start();
    }

    int halt() {
        stateHolds(now.running != null);
        save();
        return now.stop();
    }

    int speak(int sound) {
        inRange(sound, 0, 99);
        stateHolds(now.running != null && room() > 0);
        save();
        return now.write(sound);
    }

    boolean setFlag(int number, boolean isSet) {
        Recording recording = recording(number);
        save();
        boolean before = recording.flag;
        recording.flag = isSet;
        return before;
    }

    int erase(int number) {
        Recording recording = recording(number);
        stateHolds(!recording.flag);
        save();
        now.goAway(recording);
        return recording.cells.size();
    }

    int moveHead(int cell) {
        isCell(cell);
        stateHolds(now.running == null);
        save();
        int before = now.head;
        now.head = cell;
        return before;
    }

    int recordings() {
        return now.all.size();
    }

    int running() {
        return now.all.indexOf(now.running);
    }

    int head() {
        return now.head;
    }

    int length(int number) {
        return recording(number).cells.size();
    }

    private Cell cell(int number, int place) {
        Recording recording = recording(number);
        if (place < 0) {
            throw new IndexOutOfBoundsException();
        }
        return place < recording.cells.size() ? recording.cells.get(place) : null;
    }

    int sound(int number, int place) {
        Cell cell = cell(number, place);
        return cell == null ? -1 : cell.sound;
    }

    int cellOf(int number, int place) {
        Cell cell = cell(number, place);
        return cell == null ? -1 : cell.number;
    }

    boolean hasFlag(int number) {
        return recording(number).flag;
    }

    int lost(int number) {
        return recording(number).lost;
    }

    int owner(int cell) {
        isCell(cell);
        return now.all.indexOf(now.ownerOf(cell));
    }

    int free() {
        int free = 0;
        for (int number = 0; number < 32; number++) {
            free += now.ownerOf(number) == null ? 1 : 0;
        }
        return free;
    }

    int spoken() {
        return now.spoken;
    }

    int gone() {
        return now.gone;
    }

    double usedShare() {
        return (32.0 - free()) / 32;
    }

    int go(int number) {
        Recording recording = recording(number);
        save();
        now.player = recording;
        now.place = 0;
        return recording.cells.size();
    }

    int play() {
        stateHolds(now.player != null);
        save();
        return heard();
    }

    private int heard() {
        if (now.place == now.player.cells.size()) {
            return -1;
        }
        now.place++;
        return now.player.cells.get(now.place - 1).sound;
    }

    int back(int cells) {
        inRange(cells, 1, 9);
        stateHolds(now.player != null);
        save();
        now.place = now.place > cells ? now.place - cells : 0;
        return now.place;
    }

    int playing() {
        return now.all.indexOf(now.player);
    }

    int place() {
        return now.player == null ? -1 : now.place;
    }

    int correct(int number, int place, int sound) {
        Cell cell = cell(number, place);
        if (cell == null) {
            throw new IndexOutOfBoundsException();
        }
        inRange(sound, 0, 99);
        stateHolds(!recording(number).flag);
        save();
        int before = cell.sound;
        cell.sound = sound;
        return before;
    }

    int carbon(int number, int place) {
        Cell cell = cell(number, place);
        return cell == null ? -1 : cell.carbon;
    }

    int corrected() {
        int corrected = 0;
        for (Recording recording : now.all) {
            for (Cell cell : recording.cells) {
                corrected += cell.sound != cell.carbon ? 1 : 0;
            }
        }
        return corrected;
    }

    int room() {
        int room = 0;
        for (int number = 0; number < 32; number++) {
            room += now.isWritable(number) ? 1 : 0;
        }
        return room;
    }

    /** A copy of the world in which somebody speaks: it may hold eleven recordings. */
    private World imagined() {
        World other = now.copy();
        if (other.running == null) {
            other.start();
        }
        return other;
    }

    int nextLoser() {
        World other = imagined();
        List<Recording> all = new ArrayList<>(other.all);
        for (int i = 0; i < 32; i++) {
            other.write(0);
            for (int number = 0; number < now.all.size(); number++) {
                if (all.get(number).lost > now.all.get(number).lost) {
                    return number;
                }
            }
        }
        return -1;
    }

    int lossOf(int number, int sounds) {
        int before = recording(number).lost;
        inRange(sounds, 1, 32);
        World other = imagined();
        Recording watched = other.all.get(number);
        for (int i = 0; i < sounds; i++) {
            other.write(0);
        }
        return watched.lost - before;
    }

    int goneAfter(int sounds) {
        inRange(sounds, 1, 32);
        World other = imagined();
        for (int i = 0; i < sounds; i++) {
            other.write(0);
        }
        return other.gone - now.gone;
    }

    int append(int code) {
        inRange(code, 33, 126);
        stateHolds(text.length() < 60);
        text.append((char) code);
        return text.length();
    }

    int clearText() {
        int length = text.length();
        text.setLength(0);
        return length;
    }

    int firstError() {
        for (int i = 0; i < text.length(); i++) {
            if (!isBeginning(text.substring(0, i + 1))) {
                return i;
            }
        }
        return text.length();
    }

    private static boolean isBeginning(String start) {
        for (String end : ENDS) {
            if (TEXT.matcher(start + end).matches()) {
                return true;
            }
        }
        return false;
    }

    int run() {
        if (!TEXT.matcher(text).matches()) {
            throw new IllegalArgumentException();
        }
        save();
        int executed = 0;
        for (String order : text.toString().split(";")) {
            if (!obeys(order)) {
                break;
            }
            executed++;
        }
        text.setLength(0);
        return executed;
    }

    /** Does an order by the public call of it, without the state that this saves. */
    private boolean obeys(String order) {
        List<World> kept = new ArrayList<>(saved);
        World before = now.copy();
        boolean isDone = true;
        try {
            callOf(order);
        } catch (IllegalStateException | IndexOutOfBoundsException e) {
            now = before;
            isDone = false;
        }
        saved.clear();
        saved.addAll(kept);
        return isDone;
    }

    private void callOf(String order) {
        String rest = order.substring(1);
        switch (order.charAt(0)) {
            case 'b' -> begin();
            case 'h' -> halt();
            case 's' -> speak(Integer.parseInt(rest));
            case 'f' -> setFlag(Integer.parseInt(rest), true);
            case 'u' -> setFlag(Integer.parseInt(rest), false);
            case 'e' -> erase(Integer.parseInt(rest));
            case 'g' -> go(Integer.parseInt(rest));
            case 'p' -> play();
            case 'k' -> back(Integer.parseInt(rest));
            default -> {
                String[] parts = rest.split("=");
                for (int i = 0; i < Integer.parseInt(parts[0]); i++) {
                    speak(Integer.parseInt(parts[1]));
                }
            }
        }
    }

    int undo() {
        stateHolds(!saved.isEmpty());
        now = saved.remove(saved.size() - 1);
        return saved.size();
    }

    int savedStates() {
        return saved.size();
    }

    long digest() {
        List<Integer> values = new ArrayList<>(List.of(recordings(), running(), head(), free(),
                spoken(), gone(), playing(), place()));
        values.addAll(List.of(corrected(), room(), nextLoser()));
        for (Recording recording : now.all) {
            values.addAll(List.of(recording.cells.size(), recording.flag ? 1 : 0, recording.lost));
            for (Cell cell : recording.cells) {
                values.addAll(List.of(cell.number, cell.sound, cell.carbon));
            }
        }
        for (int cell = 0; cell < 32; cell++) {
            values.add(owner(cell));
        }
        long hash = 4444;
        for (int value : values) {
            hash = 31 * hash + value;
        }
        return hash;
    }
}
