/** The document's first paragraph, clause by clause, on one object; all answers were reckoned by hand. */
public final class StoryTest {
    private static final Due DUE = new Due("StoryTest");

    private final Told t = new Told();

    public static void main(String[] args) {
        StoryTest story = new StoryTest();
        story.lettersAndWords();
        story.net();
        story.cuttings();
        story.joins();
        story.sureCuts();
        story.changes();
        DUE.end();
    }

    private void lettersAndWords() {
        DUE.says("What it is", "Where one word ends: letters stand without blanks;");
        DUE.is("a blank", t.x.say(' '), CutLetters.OUTSIDE);
        t.line("abbab");
        DUE.same("the line", t.line(), "abbab");
        DUE.says("What it is", "a dictionary tells words, of kinds, with costs;");
        t.words("ab=noun5", "abb=v9", "a=mark2", "ba=n4", "bab=m7");
        DUE.same("the words", t.words(), "ab=n5 abb=v9 a=m2 ba=n4 bab=m7");
    }

    /** Place, letters, kind, cost, word: b? and bb? are all that is unknown at 1, b? at 4. */
    private void net() {
        DUE.says("What it is", "all words that begin at a place, and what is unknown there, by rules that can be told, "
                + "are pieces of a net from the first letter to the last;");
        DUE.same("pieces", t.pieces(), "0,1,2,2,2 0,2,0,5,0 0,3,1,9,1 1,1,3,60,-6 1,2,3,70,-6 2,2,0,4,3 2,3,2,7,4 "
                + "3,1,2,2,2 3,2,0,5,0 4,1,3,60,-6");
        DUE.is("what is unknown: at each place", t.x.rule(0, 1), 0);
        DUE.is("and so three more", t.x.pieces(), 13);
        DUE.is("never", t.x.rule(0, 2), 1);
        DUE.is("and so words alone", t.x.pieces(), 7);
        DUE.is("where no word begins", t.x.rule(0, 0), 2);
        DUE.is("as at first", t.x.pieces(), 10);
    }

    private void cuttings() {
        DUE.says("What it is", "the least way through it is a cutting, then the next one, and so on, in order, "
                + "as many as are asked;");
        String[] due = {"12: 1 6", "14: 2 8", "69: 0 3 6", "69: 1 5 9", "71: 2 7 9", "77: 0 4 8", "126: 0 3 5 9",
                "134: 0 4 7 9"};
        for (int i = 0; i < due.length; i++) {
            DUE.same("cutting " + i, t.cutting(i), due[i]);
        }
        DUE.is("one more", t.x.cutting(8, -1), CutLetters.NONE);
        DUE.says("What it is", "how many there are at all;");
        DUE.is("ways", t.x.ways(), 8);
        DUE.says("What it is", "what is cut is written with bars;");
        DUE.same("the first", t.written(0), "ab|bab");
        DUE.same("the third", t.written(2), "a|b?|bab");
    }

    private void joins() {
        DUE.says("What it is", "what stands behind what costs, too;");
        DUE.is("a mark behind a noun", t.x.join(0, 2, 3), 0);
        DUE.same("ab|bab is not the first now", t.cutting(0), "14: 2 8");
        DUE.same("but the next", t.cutting(1), "15: 1 6");
    }

    private void sureCuts() {
        DUE.says("What it is", "which cuts all good ones have in common;");
        DUE.is("that of abb|ab", t.x.sure(0), 1 << 3);
        DUE.is("none of both abb|ab and ab|bab", t.x.sure(1), 0);
    }

    private void changes() {
        DUE.is("an image", t.x.image(1), 1);
        DUE.says("What it is", "words can be told anew, or taken out;");
        DUE.is("ab anew", t.learn("ab=n9"), 0);
        DUE.same("abb|ab costs more", t.cutting(0), "18: 2 8");
        DUE.is("abb goes", t.x.forget(1), 4);
        DUE.same("ab|bab is first again", t.cutting(0), "19: 1 5");
        DUE.same("then a|b?|bab", t.cutting(1), "69: 0 2 5");
        DUE.is("how many now", t.x.ways(), 6);
        DUE.says("What it is", "images.");
        DUE.is("as it was kept", t.x.restore(1), 1);
        DUE.same("words", t.words(), "ab=n5 abb=v9 a=m2 ba=n4 bab=m7");
        DUE.same("the first", t.cutting(0), "14: 2 8");
        DUE.is("ways", t.x.ways(), 8);
    }
}
