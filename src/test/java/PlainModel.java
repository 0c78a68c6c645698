import java.math.BigInteger;
import java.util.ArrayList;
import java.util.Arrays;
import java.util.List;

/**
 * The document once more, as slow and as plain as can be, for random runs to compare with.
 * It shares no way of working with the class: texts are matched by patterns, where there are few
 * cuttings all are listed and sorted, and where there are many they are sought cost by cost.
 */
final class PlainModel {
    record Word(String letters, int kind, int cost) { }

    record Piece(int place, String letters, int kind, int cost, int word) {
        int end() {
            return place + letters.length();
        }
    }

    record Cutting(int cost, List<Integer> pieces) { }

    record Image(List<Word> words, int[] joins, int[] rules, String line) { }

    private static final int FEW = 3000;
    private static final int NEVER = 1 << 28;

    private String pad = "";
    private List<Word> words = new ArrayList<>();
    private int[] joins = new int[25];
    private int[] rules = {0, 50, 10, 1};
    private String line = "";
    private final Image[] images = new Image[2];

    private List<Piece> pieces;
    private List<Cutting> all;
    private List<Cutting> first;

    int say(int sign) {
        if (sign < 33 || sign > 126) {
            return CutLetters.OUTSIDE;
        }
        if (pad.length() == 40) {
            return CutLetters.FULL;
        }
        pad += (char) sign;
        return pad.length();
    }

    int wipe() {
        int was = pad.length();
        pad = "";
        return was;
    }

    int fault(int as) {
        if (as != 0 && as != 1) {
            return CutLetters.OUTSIDE;
        }
        if (pad.matches(as == 0 ? "[a-h]{1,6}=(noun|verb|mark|n|v|m)[0-9]{1,2}" : "[a-h]{1,24}")) {
            return CutLetters.NONE;
        }
        if (as == 1) {
            return longest("[a-h]{0,24}");
        }
        int letters = longest("[a-h]{1,6}");
        int sign = longest("[a-h]{1,6}=");
        int name = longest("[a-h]{1,6}=(noun|verb|mark|n|v|m)");
        int cost = longest("[a-h]{1,6}=(noun|verb|mark|n|v|m)[0-9]{1,2}");
        return Math.max(Math.max(letters, sign), Math.max(name, cost));
    }

    /** How many signs the pattern takes from the pad's beginning, at the most. */
    private int longest(String pattern) {
        for (int length = pad.length(); length > 0; length--) {
            if (pad.substring(0, length).matches(pattern)) {
                return length;
            }
        }
        return 0;
    }

    int learn() {
        if (fault(0) != CutLetters.NONE) {
            return CutLetters.NO;
        }
        String letters = pad.substring(0, pad.indexOf('='));
        int kind = "nvm".indexOf(pad.charAt(letters.length() + 1));
        Word told = new Word(letters, kind, Integer.parseInt(pad.replaceAll("[^0-9]", "")));
        for (int i = 0; i < words.size(); i++) {
            if (words.get(i).letters().equals(letters) && words.get(i).kind() == kind) {
                words.set(i, told);
                pad = "";
                changed();
                return i;
            }
        }
        if (words.size() == 16) {
            return CutLetters.FULL;
        }
        words.add(told);
        pad = "";
        changed();
        return words.size() - 1;
    }

    int forget(int word) {
        if (word < 0 || word >= words.size()) {
            return CutLetters.UNKNOWN;
        }
        words.remove(word);
        changed();
        return words.size();
    }

    int word(int word, int what) {
        if (word < 0 || word >= words.size()) {
            return CutLetters.UNKNOWN;
        }
        if (what < 0) {
            return CutLetters.OUTSIDE;
        }
        Word found = words.get(word);
        return switch (what) {
            case 0 -> found.letters().length();
            case 1 -> found.kind();
            case 2 -> found.cost();
            default -> what - 3 < found.letters().length() ? found.letters().charAt(what - 3) : CutLetters.NONE;
        };
    }

    int line() {
        if (fault(1) != CutLetters.NONE) {
            return CutLetters.NO;
        }
        line = pad;
        pad = "";
        changed();
        return line.length();
    }

    int join(int one, int other, int cost) {
        if (one < 0 || one > 4 || other < 0 || other > 4 || one == 4 && other == 4) {
            return CutLetters.UNKNOWN;
        }
        if (cost < 0 || cost > 99) {
            return CutLetters.OUTSIDE;
        }
        int was = joins[5 * one + other];
        joins[5 * one + other] = cost;
        changed();
        return was;
    }

    int rule(int what, int n) {
        if (what < 0 || what > 3 || n < 0 || n > new int[] {2, 99, 99, 3}[what]) {
            return CutLetters.OUTSIDE;
        }
        int was = rules[what];
        rules[what] = n;
        changed();
        return was;
    }

    private void changed() {
        pieces = null;
        all = null;
        first = null;
    }

    private List<Piece> net() {
        if (pieces == null) {
            pieces = new ArrayList<>();
            for (int place = 0; place < line.length(); place++) {
                pieces.addAll(at(place));
            }
        }
        return pieces;
    }

    private List<Piece> at(int place) {
        List<Piece> found = new ArrayList<>();
        String rest = line.substring(place);
        for (int i = 0; i < words.size(); i++) {
            Word word = words.get(i);
            if (rest.startsWith(word.letters())) {
                found.add(new Piece(place, word.letters(), word.kind(), word.cost(), i));
            }
        }
        if (rules[0] == 1 || rules[0] == 0 && found.isEmpty()) {
            String run = rest.replaceFirst("^([ae]{1,6}|[^ae]{1,6}).*$", "$1");
            for (int length = 1; length <= run.length(); length++) {
                if (length == run.length() || length <= rules[3]) {
                    int cost = rules[1] + rules[2] * length;
                    found.add(new Piece(place, run.substring(0, length), 3, cost, CutLetters.NONE));
                }
            }
        }
        found.sort((one, other) -> one.letters().length() != other.letters().length()
                ? one.letters().length() - other.letters().length() : one.kind() - other.kind());
        return found;
    }

    private BigInteger count() {
        BigInteger[] ways = new BigInteger[line.length() + 1];
        Arrays.fill(ways, BigInteger.ZERO);
        ways[0] = BigInteger.ONE;
        for (Piece piece : net()) {
            ways[piece.end()] = ways[piece.end()].add(ways[piece.place()]);
        }
        return ways[line.length()];
    }

    private boolean few() {
        return count().compareTo(BigInteger.valueOf(FEW)) <= 0;
    }

    /** All cuttings in order; only where there are few. */
    private List<Cutting> every() {
        if (all == null) {
            all = new ArrayList<>();
            list(0, new ArrayList<>());
            all.sort((one, other) -> one.cost() != other.cost()
                    ? one.cost() - other.cost() : compareRows(one.pieces(), other.pieces()));
        }
        return all;
    }

    private static int compareRows(List<Integer> one, List<Integer> other) {
        int at = 0;
        while (at < one.size() && one.get(at).equals(other.get(at))) {
            at++;
        }
        return at < one.size() ? one.get(at) - other.get(at) : 0;
    }

    private void list(int place, List<Integer> row) {
        if (place == line.length()) {
            all.add(new Cutting(cost(row), new ArrayList<>(row)));
            return;
        }
        for (int i = 0; i < net().size(); i++) {
            if (net().get(i).place() == place) {
                row.add(i);
                list(net().get(i).end(), row);
                row.remove(row.size() - 1);
            }
        }
    }

    private int cost(List<Integer> row) {
        int cost = 0;
        int before = 4;
        for (int i : row) {
            Piece piece = net().get(i);
            cost += joins[5 * before + piece.kind()] + piece.cost();
            before = piece.kind();
        }
        return cost + joins[5 * before + 4];
    }

    /** The least cost on from each piece, with only those pieces that are let in; the last is the whole's. */
    private int[] on(boolean[] in) {
        int size = net().size();
        int[] on = new int[size + 1];
        Arrays.fill(on, NEVER);
        for (int i = size - 1; i >= 0; i--) {
            Piece piece = net().get(i);
            if (in[i]) {
                on[i] = piece.cost() + (piece.end() == line.length()
                        ? joins[5 * piece.kind() + 4] : leastNext(on, piece.end(), piece.kind()));
            }
        }
        on[size] = leastNext(on, 0, 4);
        return on;
    }

    private int leastNext(int[] on, int place, int kind) {
        int least = NEVER;
        for (int i = 0; i < net().size(); i++) {
            if (net().get(i).place() == place && on[i] < NEVER) {
                least = Math.min(least, on[i] + joins[5 * kind + net().get(i).kind()]);
            }
        }
        return least;
    }

    private int leastOf(boolean[] in) {
        return on(in)[net().size()];
    }

    private boolean[] whole() {
        boolean[] in = new boolean[net().size()];
        Arrays.fill(in, true);
        return in;
    }

    /** The first twelve. */
    private List<Cutting> twelve() {
        if (first == null) {
            first = new ArrayList<>();
            if (few()) {
                first.addAll(every().subList(0, Math.min(12, every().size())));
            } else {
                int[] on = on(whole());
                for (int cost = on[net().size()]; first.size() < 12; cost++) {
                    seek(cost, cost, 0, 4, new ArrayList<>(), on);
                }
            }
        }
        return first;
    }

    /** Those of just this cost, in order, until there are twelve. */
    private void seek(int cost, int left, int place, int kind, List<Integer> row, int[] on) {
        if (place == line.length()) {
            if (left == joins[5 * kind + 4]) {
                first.add(new Cutting(cost, new ArrayList<>(row)));
            }
            return;
        }
        for (int i = 0; i < net().size() && first.size() < 12; i++) {
            Piece piece = net().get(i);
            int join = joins[5 * kind + piece.kind()];
            if (piece.place() == place && on[i] < NEVER && join + on[i] <= left) {
                row.add(i);
                seek(cost, left - join - piece.cost(), piece.end(), piece.kind(), row, on);
                row.remove(row.size() - 1);
            }
        }
    }

    int pieces() {
        return line.isEmpty() ? CutLetters.NO : net().size();
    }

    int piece(int i, int what) {
        if (line.isEmpty()) {
            return CutLetters.NO;
        }
        if (i < 0 || i >= net().size()) {
            return CutLetters.UNKNOWN;
        }
        Piece piece = net().get(i);
        return switch (what) {
            case 0 -> piece.place();
            case 1 -> piece.letters().length();
            case 2 -> piece.kind();
            case 3 -> piece.cost();
            case 4 -> piece.word();
            case 5 -> least(i);
            default -> CutLetters.OUTSIDE;
        };
    }

    private int least(int i) {
        if (few()) {
            for (Cutting cutting : every()) {
                if (cutting.pieces().contains(i)) {
                    return cutting.cost();
                }
            }
            return CutLetters.NONE;
        }
        boolean[] in = whole();
        for (int k = 0; k < in.length; k++) {
            Piece other = net().get(k);
            in[k] = k == i || other.end() <= net().get(i).place() || other.place() >= net().get(i).end();
        }
        int least = leastOf(in);
        return least >= NEVER ? CutLetters.NONE : least;
    }

    int ways() {
        return line.isEmpty() ? CutLetters.NO : count().mod(BigInteger.valueOf(1000003)).intValue();
    }

    int cutting(int i, int j) {
        if (line.isEmpty()) {
            return CutLetters.NO;
        }
        if (i < 0 || i > 11) {
            return CutLetters.UNKNOWN;
        }
        if (j < -2) {
            return CutLetters.OUTSIDE;
        }
        if (i >= twelve().size()) {
            return CutLetters.NONE;
        }
        Cutting cutting = twelve().get(i);
        if (j < 0) {
            return j == -1 ? cutting.cost() : cutting.pieces().size();
        }
        return j < cutting.pieces().size() ? cutting.pieces().get(j) : CutLetters.NONE;
    }

    int sure(int d) {
        if (d < 0 || d > 999) {
            return CutLetters.OUTSIDE;
        }
        if (line.isEmpty()) {
            return CutLetters.NO;
        }
        if (twelve().isEmpty()) {
            return CutLetters.NONE;
        }
        int bits = 0;
        for (int place = 1; place < line.length(); place++) {
            bits |= isSure(place, twelve().get(0).cost() + d) ? 1 << place : 0;
        }
        return bits;
    }

    private boolean isSure(int place, int most) {
        if (few()) {
            return every().stream().filter(cutting -> cutting.cost() <= most)
                    .allMatch(cutting -> cutting.pieces().stream().anyMatch(i -> net().get(i).end() == place));
        }
        boolean[] in = whole();
        for (int i = 0; i < in.length; i++) {
            in[i] = net().get(i).end() != place;
        }
        return leastOf(in) > most;
    }

    int sign(int i, int j) {
        if (line.isEmpty()) {
            return CutLetters.NO;
        }
        if (i < 0 || i > 11) {
            return CutLetters.UNKNOWN;
        }
        if (i >= twelve().size()) {
            return CutLetters.NONE;
        }
        List<String> parts = new ArrayList<>();
        for (int piece : twelve().get(i).pieces()) {
            parts.add(net().get(piece).letters() + (net().get(piece).kind() == 3 ? "?" : ""));
        }
        String text = String.join("|", parts);
        if (j == -1) {
            return text.length();
        }
        return j >= 0 && j < text.length() ? text.charAt(j) : CutLetters.NONE;
    }

    int image(int n) {
        if (n != 0 && n != 1) {
            return CutLetters.OUTSIDE;
        }
        images[n] = new Image(new ArrayList<>(words), joins.clone(), rules.clone(), line);
        return 1;
    }

    int restore(int n) {
        if (n != 0 && n != 1) {
            return CutLetters.OUTSIDE;
        }
        if (images[n] == null) {
            return CutLetters.STATE;
        }
        words = new ArrayList<>(images[n].words());
        joins = images[n].joins().clone();
        rules = images[n].rules().clone();
        line = images[n].line();
        changed();
        return 1;
    }

    int told(int what) {
        if (what >= 0 && what <= 2) {
            return what == 0 ? pad.length() : what == 1 ? words.size() : line.length();
        }
        if (what >= 3 && what <= 6) {
            return rules[what - 3];
        }
        if (what >= 10 && what <= 33) {
            return joins[what - 10];
        }
        if (what >= 100 && what - 100 < line.length()) {
            return line.charAt(what - 100);
        }
        return CutLetters.OUTSIDE;
    }
}
