/** Belts in the states that several tests need. */
final class Belts {
    private Belts() {
    }

    static void write(DictationBelt belt, String text) {
        for (int i = 0; i < text.length(); i++) {
            belt.append(text.charAt(i));
        }
    }

    static int run(DictationBelt belt, String text) {
        belt.clearText();
        write(belt, text);
        return belt.run();
    }

    /** A new belt on which orders are run, each text to its end; "@" and a cell moves the head. */
    static DictationBelt after(String... texts) {
        DictationBelt belt = new DictationBelt();
        then(belt, texts);
        return belt;
    }

    static void then(DictationBelt belt, String... texts) {
        for (String text : texts) {
            if (text.charAt(0) == '@') {
                belt.moveHead(Integer.parseInt(text.substring(1)));
            } else {
                Check.same("run() of " + text, run(belt, text), text.split(";").length);
            }
        }
    }

    /** Ten recordings of one cell each; the last one is running. */
    static DictationBelt ofTen() {
        return after("b;s0;b;s1;b;s2;b;s3;b;s4;b;s5;b;s6;b;s7;b;s8;b;s9");
    }

    /** The sounds of a recording, as a text. */
    static String sounds(DictationBelt belt, int recording) {
        StringBuilder all = new StringBuilder();
        for (int place = 0; place < belt.length(recording); place++) {
            all.append(belt.sound(recording, place)).append(' ');
        }
        return all.toString().trim();
    }

    /** The cells of a recording, as a text. */
    static String cells(DictationBelt belt, int recording) {
        StringBuilder all = new StringBuilder();
        for (int place = 0; place < belt.length(recording); place++) {
            all.append(belt.cellOf(recording, place)).append(' ');
        }
        return all.toString().trim();
    }
}
