/** An object of the class with whole texts told and read, so that a test can be read, too. */
final class Told {
    final Counted x = new Counted();

    /** The pad holds just this. */
    Told pad(String text) {
        x.wipe();
        for (int i = 0; i < text.length(); i++) {
            x.say(text.charAt(i));
        }
        return this;
    }

    int faultAsWord(String text) {
        return pad(text).x.fault(0);
    }

    int faultAsLine(String text) {
        return pad(text).x.fault(1);
    }

    int learn(String text) {
        return pad(text).x.learn();
    }

    Told words(String... texts) {
        for (String text : texts) {
            learn(text);
        }
        return this;
    }

    Told line(String text) {
        pad(text).x.line();
        return this;
    }

    /** The four rules at once. */
    Told rules(int when, int base, int each, int shorts) {
        x.rule(0, when);
        x.rule(1, base);
        x.rule(2, each);
        x.rule(3, shorts);
        return this;
    }

    /** What the class tells of a word, written as it would be told. */
    String word(int number) {
        StringBuilder text = new StringBuilder();
        int letters = x.word(number, 0);
        for (int i = 0; i < letters; i++) {
            text.append((char) x.word(number, 3 + i));
        }
        return text.append('=').append("nvm".charAt(x.word(number, 1))).append(x.word(number, 2)).toString();
    }

    /** All words, in their order. */
    String words() {
        StringBuilder text = new StringBuilder();
        int count = x.told(1);
        for (int i = 0; i < count; i++) {
            text.append(i == 0 ? "" : " ").append(word(i));
        }
        return text.toString();
    }

    /** The line, as told letter by letter. */
    String line() {
        StringBuilder text = new StringBuilder();
        int letters = x.told(2);
        for (int place = 0; place < letters; place++) {
            text.append((char) x.told(100 + place));
        }
        return text.toString();
    }

    /** All pieces: place, letters, kind, cost, word. */
    String pieces() {
        return pieces(0, 1, 2, 3, 4);
    }

    String leasts() {
        return pieces(5);
    }

    private String pieces(int... whats) {
        StringBuilder text = new StringBuilder();
        int count = x.pieces();
        for (int i = 0; i < count; i++) {
            String gap = i == 0 ? "" : " ";
            for (int what : whats) {
                text.append(gap).append(x.piece(i, what));
                gap = ",";
            }
        }
        return text.toString();
    }

    /** How many letters the wild pieces at a place have, in order. */
    String wildAt(int place) {
        StringBuilder text = new StringBuilder();
        int count = x.pieces();
        for (int i = 0; i < count; i++) {
            if (x.piece(i, 0) == place && x.piece(i, 2) == 3) {
                text.append(text.length() == 0 ? "" : " ").append(x.piece(i, 1));
            }
        }
        return text.toString();
    }

    /** A cutting: its cost, then its pieces. */
    String cutting(int i) {
        StringBuilder text = new StringBuilder().append(x.cutting(i, -1)).append(':');
        int pieces = x.cutting(i, -2);
        for (int j = 0; j < pieces; j++) {
            text.append(' ').append(x.cutting(i, j));
        }
        return text.toString();
    }

    String written(int i) {
        StringBuilder text = new StringBuilder();
        int signs = x.sign(i, -1);
        for (int j = 0; j < signs; j++) {
            text.append((char) x.sign(i, j));
        }
        return text.toString();
    }
}
