/** An object of the class with whole texts told and read, so that a test can be read, too. */
final class Told {
    final CutLetters x = new CutLetters();

    /** The pad holds just this. */
    Told pad(String text) {
        x.wipe();
        for (int i = 0; i < text.length(); i++) {
            x.say(text.charAt(i));
        }
        return this;
    }

    int faultAsWord(String text) {
        return pad(text).x.fault(0);
    }

    int faultAsLine(String text) {
        return pad(text).x.fault(1);
    }

    int learn(String text) {
        return pad(text).x.learn();
    }

    Told words(String... texts) {
        for (String text : texts) {
            learn(text);
        }
        return this;
    }

    Told line(String text) {
        pad(text).x.line();
        return this;
    }

    /** What the class tells of a word, written as it would be told. */
    String word(int number) {
        StringBuilder text = new StringBuilder();
        for (int i = 0; i < x.word(number, 0); i++) {
            text.append((char) x.word(number, 3 + i));
        }
        return text.append('=').append("nvm".charAt(x.word(number, 1))).append(x.word(number, 2)).toString();
    }

    /** All pieces: place, letters, kind, cost, word. */
    String pieces() {
        StringBuilder text = new StringBuilder();
        for (int i = 0; i < x.pieces(); i++) {
            text.append(i == 0 ? "" : " ");
            for (int what = 0; what < 5; what++) {
                text.append(what == 0 ? "" : ",").append(x.piece(i, what));
            }
        }
        return text.toString();
    }

    String leasts() {
        StringBuilder text = new StringBuilder();
        for (int i = 0; i < x.pieces(); i++) {
            text.append(i == 0 ? "" : " ").append(x.piece(i, 5));
        }
        return text.toString();
    }

    /** A cutting: its cost, then its pieces. */
    String cutting(int i) {
        StringBuilder text = new StringBuilder().append(x.cutting(i, -1)).append(':');
        for (int j = 0; j < x.cutting(i, -2); j++) {
            text.append(' ').append(x.cutting(i, j));
        }
        return text.toString();
    }

    String written(int i) {
        StringBuilder text = new StringBuilder();
        for (int j = 0; j < x.sign(i, -1); j++) {
            text.append((char) x.sign(i, j));
        }
        return text.toString();
    }
}
