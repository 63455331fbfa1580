import java.util.function.BiConsumer;
import java.util.function.Supplier;

/** The lines of the document that say what a parameter is: each value round its range. */
final class ParameterTests {
    private static final String NUMBER = ": `recording`: its number";
    private static final String PLACE = ": `place`: 0 for its first cell, and so on";
    private static final int BESIDE = 70;

    private ParameterTests() {
    }

    static void runAll() {
        sounds();
        numbersOfRecordings();
        cellsOfTheBelt();
        places();
        others();
    }

    /** Just the values from low to high are taken; each other one is refused with this exception. */
    private static void isRange(Class<?> due, int low, int high, Supplier<DictationBelt> made,
            BiConsumer<DictationBelt, Integer> call) {
        for (int value = low - BESIDE; value <= high + BESIDE; value++) {
            takes(value, value >= low && value <= high ? "nothing" : due.getSimpleName(), made, call);
        }
        for (int bit = 8; bit < 32; bit++) {
            // Far values that agree with one of the range in their low bits.
            takes(low + (1 << bit), due.getSimpleName(), made, call);
            takes(low - (1 << bit), due.getSimpleName(), made, call);
        }
    }

    private static void takes(int value, String due, Supplier<DictationBelt> made,
            BiConsumer<DictationBelt, Integer> call) {
        int asked = value;
        Check.same("the call with " + value, Edge.thrownBy(made.get(),
                belt -> call.accept(belt, asked)), due);
    }

    private static void sounds() {
        Edge.test("4: `sound`: 0 to 99", () -> {
            isRange(Edge.RANGE, 0, 99, () -> Belts.after("b"), DictationBelt::speak);
            for (int sound = 0; sound <= 99; sound++) {
                DictationBelt belt = Belts.after("b");
                belt.speak(sound);
                Check.same("sound()", belt.sound(0, 0), sound);
            }
        });
        Edge.test("26: `sound`: 0 to 99", () -> {
            isRange(Edge.RANGE, 0, 99, () -> Belts.after("b;s5"),
                    (belt, sound) -> belt.correct(0, 0, sound));
            for (int sound = 0; sound <= 99; sound++) {
                DictationBelt belt = Belts.after("b;s5");
                belt.correct(0, 0, sound);
                Check.same("sound()", belt.sound(0, 0), sound);
                Check.same("carbon()", belt.carbon(0, 0), 5);
            }
        });
    }

    private static void numbersOfRecordings() {
        number("5" + NUMBER, (belt, number) -> belt.setFlag(number, true));
        number("6" + NUMBER, DictationBelt::erase);
        number("11" + NUMBER, DictationBelt::length);
        number("12" + NUMBER, (belt, number) -> belt.sound(number, 0));
        number("13" + NUMBER, (belt, number) -> belt.cellOf(number, 0));
        number("14" + NUMBER, DictationBelt::hasFlag);
        number("15" + NUMBER, DictationBelt::lost);
        number("21" + NUMBER, DictationBelt::go);
        number("26: `recording`: the number of a recording",
                (belt, number) -> belt.correct(number, 0, 1));
        number("27" + NUMBER, (belt, number) -> belt.carbon(number, 0));
        number("31" + NUMBER, (belt, number) -> belt.lossOf(number, 1));
    }

    /** Of no to ten recordings, running or not, just those that are there have a number. */
    private static void number(String line, BiConsumer<DictationBelt, Integer> call) {
        Edge.test(line, () -> {
            for (int count = 0; count <= 10; count++) {
                int recordings = count;
                isRange(Edge.INDEX, 0, recordings - 1, () -> of(recordings), call);
                isRange(Edge.INDEX, 0, recordings - 1, () -> {
                    DictationBelt belt = of(recordings);
                    if (recordings > 0) {
                        belt.halt();
                    }
                    return belt;
                }, call);
            }
        });
    }

    private static DictationBelt of(int recordings) {
        DictationBelt belt = new DictationBelt();
        for (int number = 0; number < recordings; number++) {
            belt.begin();
            belt.speak(number);
        }
        return belt;
    }

    private static void cellsOfTheBelt() {
        Edge.test("7: `cell`: 0 to 31", () -> {
            isRange(Edge.INDEX, 0, 31, DictationBelt::new, DictationBelt::moveHead);
            for (int cell = 0; cell < 32; cell++) {
                DictationBelt belt = new DictationBelt();
                belt.moveHead(cell);
                Check.same("head()", belt.head(), cell);
                belt.begin();
                Check.same("speak()", belt.speak(1), cell);
            }
        });
        Edge.test("16: `cell`: 0 to 31", () -> {
            isRange(Edge.INDEX, 0, 31, () -> Belts.after("b;s1"), DictationBelt::owner);
            for (int cell = 0; cell < 32; cell++) {
                DictationBelt belt = Belts.after("@" + cell, "b;s1");
                for (int other = 0; other < 32; other++) {
                    Check.same("owner()", belt.owner(other), other == cell ? 0 : -1);
                }
            }
        });
    }

    /** Five cells over the end of the belt, with the sounds 10 to 14; the second is corrected. */
    private static DictationBelt ofFive() {
        DictationBelt belt = Belts.after("@30", "b;s10;s11;s12;s13;s14;b;s20");
        belt.correct(0, 1, 50);
        return belt;
    }

    private static void places() {
        int[] sounds = {10, 50, 12, 13, 14};
        int[] cells = {30, 31, 0, 1, 2};
        Edge.test("12" + PLACE, () -> {
            for (int place = 0; place < 5; place++) {
                Check.same("sound()", ofFive().sound(0, place), sounds[place]);
            }
            Check.same("sound() of an other one", ofFive().sound(1, 0), 20);
        });
        Edge.test("13" + PLACE, () -> {
            for (int place = 0; place < 5; place++) {
                Check.same("cellOf()", ofFive().cellOf(0, place), cells[place]);
            }
            Check.same("cellOf() of an other one", ofFive().cellOf(1, 0), 3);
        });
        Edge.test("26" + PLACE, () -> {
            for (int place = 0; place < 5; place++) {
                DictationBelt belt = ofFive();
                Check.same("correct()", belt.correct(0, place, 77), sounds[place]);
                for (int other = 0; other < 5; other++) {
                    Check.same("sound()", belt.sound(0, other), other == place ? 77 : sounds[other]);
                }
            }
            isRange(Edge.INDEX, 0, 4, ParameterTests::ofFive,
                    (belt, place) -> belt.correct(0, place, 1));
        });
        Edge.test("27" + PLACE, () -> {
            for (int place = 0; place < 5; place++) {
                Check.same("carbon()", ofFive().carbon(0, place), 10 + place);
            }
            Check.same("carbon() of an other one", ofFive().carbon(1, 0), 20);
        });
    }

    private static void others() {
        Edge.test("5: `isSet`: whether it has a flag after the call", () -> {
            for (boolean before : new boolean[] {true, false}) {
                for (boolean isSet : new boolean[] {true, false}) {
                    DictationBelt belt = Belts.after("b;s1;b;s2;b;s3");
                    belt.setFlag(1, before);
                    Check.same("setFlag()", belt.setFlag(1, isSet), before);
                    Check.same("hasFlag()", belt.hasFlag(1), isSet);
                    Check.same("hasFlag() before it", belt.hasFlag(0), false);
                    Check.same("hasFlag() behind it", belt.hasFlag(2), false);
                }
            }
        });
        Edge.test("23: `cells`: 1 to 9, by how much the place decreases", () -> {
            isRange(Edge.RANGE, 1, 9, () -> Belts.after("b;s1;g0;p"), DictationBelt::back);
            for (int cells = 1; cells <= 9; cells++) {
                DictationBelt belt = Belts.after("b;r12=1;g0;p;p;p;p;p;p;p;p;p;p;p");
                Check.same("back(" + cells + ")", belt.back(cells), 11 - cells);
                Check.same("place()", belt.place(), 11 - cells);
            }
        });
        Edge.test("31: `sounds`: 1 to 32", () -> {
            isRange(Edge.RANGE, 1, 32, () -> Belts.after("b;s1"),
                    (belt, sounds) -> belt.lossOf(0, sounds));
            for (int sounds = 1; sounds <= 32; sounds++) {
                Check.same("lossOf()", Belts.after("b;r32=1;h").lossOf(0, sounds), sounds);
            }
        });
        Edge.test("32: `sounds`: 1 to 32", () -> {
            isRange(Edge.RANGE, 1, 32, () -> Belts.after("b;s1"), DictationBelt::goneAfter);
            for (int sounds = 1; sounds <= 32; sounds++) {
                int due = Math.min(sounds, 10);
                DictationBelt ten = Belts.ofTen();
                ten.halt();
                ten.moveHead(0);
                Check.same("goneAfter()", ten.goneAfter(sounds), due);
            }
        });
        Edge.test("33: `code`: a character code, 33 to 126",
                () -> isRange(Edge.RANGE, 33, 126, DictationBelt::new, DictationBelt::append));
    }
}
