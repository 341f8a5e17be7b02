/**
 * Every refused call: the number it answers, the one counter that grows, and that nothing else changes.
 * An object on which it was made is asked for everything, beside a twin on which it was not.
 */
public final class RefusalTest extends Calls {
    private interface Call {
        int on(AnswerShorter x);
    }

    /** How the object stands when the call comes. */
    private enum State {
        NEW, PERSONS, SOME, FULL
    }

    private static State state = State.NEW;

    public static void main(String[] args) {
        numbers();
        marks();
        words();
        persons();
        personsAnd();
        sets();
        talks();
        lengths();
        worths();
        images();
        firstOfTwo();
        justInside();
        notCounted();
        finish("RefusalTest");
    }

    // ---- how it is looked at

    private static AnswerShorter made() {
        switch (state) {
            case PERSONS:
                return with("ph;po;pb;pg;");
            case SOME:
                return some();
            case FULL:
                return full();
            default:
                return new AnswerShorter();
        }
    }

    /** Three words, two persons, a talk of two sayings, a latest MEANT, an image; a row, an answer, letters begun. */
    private static AnswerShorter some() {
        AnswerShorter x = with(TWO_AND_NOT + "ph;po;w2,2;l4;");
        x.truth(3);
        said(x, 1, 0, 1);
        said(x, 2, 2, 0);
        x.image();
        x.law(0);
        ask(x, 0, 0, 0);
        hear(x, 2, 0);
        due("meant(0)", x.meant(0), 252);
        ask(x, 1, 0, 0);
        hear(x, 2, 1);
        letters(x, "t3;n");
        return x;
    }

    private static AnswerShorter full() {
        AnswerShorter x = with("t01;t02;t4;n;o;i;t5;t6;ph;po;pb;pg;l4;");
        for (int k = 1; k <= 12; k++) {
            said(x, k, k % 8);
        }
        x.law(0);
        ask(x, 0, 1, 0, 1, 0, 1);
        hear(x, 1, 0, 1, 0, 1, 0);
        letters(x, "w0,0;w1,1;w2,2;w3,3;w4,4;w5,5;w6,6;w7,7;w0,8;w0,9;w1,8;w1,9;w2,9");
        return x;
    }

    private static void refused(int want, String name, Call call) {
        about("refusal in state " + state);
        AnswerShorter x = made();
        due("what was refused ahead of " + name, counters(x), counters(new AnswerShorter()));
        due(name, call.on(x), want);
        int number = want > 0 ? 1000000000 - want : want;
        for (int k = 1; k <= 6; k++) {
            due("count(" + (10 + k) + ") behind " + name, x.count(10 + k), k == -number ? 1 : 0);
        }
        due("everything behind " + name, everything(x), everything(made()));
    }

    private static String counters(AnswerShorter x) {
        StringBuilder s = new StringBuilder();
        for (int k = 11; k <= 16; k++) {
            s.append(x.count(k)).append(' ');
        }
        return s.toString();
    }

    /** All that an object can be asked for; it is another behind it. */
    private static String everything(AnswerShorter x) {
        StringBuilder s = new StringBuilder(standing(x));
        for (int p = 0; p < x.count(1); p++) {
            s.append(" answer ").append(x.answer(p, -1)).append(x.answer(p, 0)).append(x.answer(p, 1));
            s.append(" best ").append(x.best(p, -1));
        }
        for (int c = 0; c < 8; c++) {
            s.append(" answers ").append(x.answers(c)).append(" chance ").append(x.chance(c, 0)).append(x.chance(c, 1));
        }
        s.append(" meant ").append(x.meant(0)).append(" tongue ").append(x.tongue()).append(standing(x));
        return s.append(" on ").append(x.on()).append(standing(x)).toString();
    }

    private static String standing(AnswerShorter x) {
        StringBuilder s = new StringBuilder();
        for (int what = 0; what <= 8; what++) {
            s.append(' ').append(x.count(what));
        }
        for (int w = 0; w < x.count(0); w++) {
            s.append(" word ").append(x.word(w, 0)).append(' ').append(x.word(w, 1));
        }
        for (int c = 0; c < 8; c++) {
            s.append(" weight ").append(x.weight(c));
        }
        for (int i = 0; i < x.count(2); i++) {
            s.append(" saying ").append(x.saying(i, 0)).append(x.saying(i, 1)).append(x.saying(i, 2));
        }
        return s.append(" known ").append(x.known()).toString();
    }

    // ---- the promises' refusals

    private static void numbers() {
        for (State s : State.values()) {
            state = s;
            for (int c : new int[] {-1, -2, -256, LOWEST}) {
                refused(-4, "letter(" + c + ")", x -> x.letter(c));
            }
            for (int c : new int[] {256, 257, 1000, HIGHEST}) {
                refused(-6, "letter(" + c + ")", x -> x.letter(c));
            }
        }
        state = State.FULL;
        for (int c : new int[] {0, ';', 255}) {
            refused(-6, "letter(" + c + ") with 64", x -> x.letter(c));
        }
    }

    private static void marks() {
        for (State s : State.values()) {
            state = s;
            for (int c : new int[] {-1, 8, 9, LOWEST, HIGHEST}) {
                refused(-1, "weight(" + c + ")", x -> x.weight(c));
                refused(-1, "truth(" + c + ")", x -> x.truth(c));
                refused(-1, "answers(" + c + ")", x -> x.answers(c));
                refused(-1, "chance(" + c + ", 0)", x -> x.chance(c, 0));
                refused(-1, "chance(" + c + ", 1)", x -> x.chance(c, 1));
            }
            for (int v : new int[] {-1, 5, 9, LOWEST, HIGHEST}) {
                refused(-2, "law(" + v + ")", x -> x.law(v));
            }
            for (int part : new int[] {-1, 2, LOWEST, HIGHEST}) {
                refused(-2, "chance(0, " + part + ")", x -> x.chance(0, part));
                refused(-2, "chance(7, " + part + ")", x -> x.chance(7, part));
            }
        }
    }

    private static void words() {
        for (State s : State.values()) {
            state = s;
            int words = made().count(0);
            for (int w : new int[] {-1, words, words + 1, 8, 9, LOWEST, HIGHEST}) {
                refused(-1, "word(" + w + ", 0)", x -> x.word(w, 0));
                refused(-1, "word(" + w + ", 1)", x -> x.word(w, 1));
                refused(-1, "row(" + w + ")", x -> x.row(w));
                refused(-1, "told(" + w + ")", x -> x.told(w));
            }
        }
        for (int what : new int[] {-1, 2, 3, LOWEST, HIGHEST}) {
            state = State.SOME;
            refused(-2, "word(0, " + what + ")", x -> x.word(0, what));
            refused(-2, "word(2, " + what + ")", x -> x.word(2, what));
        }
        state = State.FULL;
        refused(-6, "row(0) with 6", x -> x.row(0));
        refused(-6, "row(7) with 6", x -> x.row(7));
        refused(-6, "told(0) with 6", x -> x.told(0));
        refused(-6, "told(7) with 6", x -> x.told(7));
    }

    private static void persons() {
        for (State s : State.values()) {
            state = s;
            int people = made().count(1);
            for (int p : new int[] {-1, people, people + 1, 4, 5, LOWEST, HIGHEST}) {
                refused(-1, "answer(" + p + ", -1)", x -> x.answer(p, -1));
                refused(-1, "left(" + p + ")", x -> x.left(p));
                refused(-1, "best(" + p + ", -1)", x -> x.best(p, -1));
                refused(-1, "meant(" + p + ")", x -> x.meant(p));
                refused(1000000001, "idle(" + p + ")", x -> x.idle(p));
                refused(-1, "under(" + p + ", 0)", x -> x.under(p, 0));
                refused(-1, "lots(" + p + ", 1, 0)", x -> x.lots(p, 1, 0));
            }
        }
    }

    private static void personsAnd() {
        for (State s : new State[] {State.PERSONS, State.SOME, State.FULL}) {
            state = s;
            for (int i : new int[] {-2, -3, LOWEST}) {
                refused(-4, "answer(0, " + i + ")", x -> x.answer(0, i));
                refused(-4, "best(0, " + i + ")", x -> x.best(0, i));
                refused(-4, "best(1, " + i + ")", x -> x.best(1, i));
            }
            for (int law : new int[] {-1, 5, LOWEST, HIGHEST}) {
                refused(-2, "under(0, " + law + ")", x -> x.under(0, law));
            }
            for (int n : new int[] {0, -1, LOWEST}) {
                refused(-4, "lots(0, " + n + ", 0)", x -> x.lots(0, n, 0));
            }
            for (int n : new int[] {31, 32, HIGHEST}) {
                refused(-6, "lots(0, " + n + ", 0)", x -> x.lots(0, n, 0));
            }
        }
    }

    private static void sets() {
        for (State s : State.values()) {
            state = s;
            for (int set : new int[] {-1, 256, 257, LOWEST, HIGHEST}) {
                refused(-1, "settles(" + set + ")", x -> x.settles(set));
                refused(-1, "least(" + set + ", -1)", x -> x.least(set, -1));
                refused(-1, "force(" + set + ", -1)", x -> x.force(set, -1));
            }
            for (int i : new int[] {-2, -3, LOWEST}) {
                refused(-4, "least(0, " + i + ")", x -> x.least(0, i));
                refused(-4, "least(255, " + i + ")", x -> x.least(255, i));
                refused(-4, "force(0, " + i + ")", x -> x.force(0, i));
                refused(-4, "force(255, " + i + ")", x -> x.force(255, i));
            }
        }
    }

    private static void talks() {
        for (State s : State.values()) {
            state = s;
            int sayings = made().count(2);
            for (int i : new int[] {-1, sayings, sayings + 1, 12, LOWEST, HIGHEST}) {
                for (int what = 0; what <= 2; what++) {
                    int of = what;
                    refused(-1, "saying(" + i + ", " + what + ")", x -> x.saying(i, of));
                }
            }
        }
        state = State.SOME;
        for (int what : new int[] {-1, 3, LOWEST, HIGHEST}) {
            refused(-2, "saying(0, " + what + ")", x -> x.saying(0, what));
            refused(-2, "saying(1, " + what + ")", x -> x.saying(1, what));
        }
        // Three words behind two, by FEWER.
        refused(-3, "say()", AnswerShorter::say);
    }

    private static void lengths() {
        for (State s : State.values()) {
            state = s;
            for (int n : new int[] {0, -1, LOWEST}) {
                refused(-4, "longest(" + n + ")", x -> x.longest(n));
                refused(-4, "last(" + n + ")", x -> x.last(n));
            }
            for (int n : new int[] {7, 8, HIGHEST}) {
                refused(-6, "longest(" + n + ")", x -> x.longest(n));
                refused(-6, "last(" + n + ")", x -> x.last(n));
            }
            for (int low : new int[] {-1, -2, LOWEST}) {
                refused(-4, "follows(" + low + ", 0)", x -> x.follows(low, 0));
                refused(-4, "follows(6, " + low + ")", x -> x.follows(6, low));
            }
            for (int n = 0; n <= 6; n++) {
                int length = n;
                refused(-6, "follows(" + n + ", " + (n + 1) + ")", x -> x.follows(length, length + 1));
            }
            refused(-6, "follows(0, highest)", x -> x.follows(0, HIGHEST));
            refused(-6, "follows(7, 0)", x -> x.follows(7, 0));
            refused(-6, "follows(7, 8)", x -> x.follows(7, 8));
            refused(-6, "follows(highest, 0)", x -> x.follows(HIGHEST, 0));
        }
    }

    private static void worths() {
        state = State.PERSONS;
        refused(1000000003, "idle(0) without words", x -> x.idle(0));
        refused(1000000003, "idle(3) without words", x -> x.idle(3));
        refused(-3, "lots(0, 1, 0) without words", x -> x.lots(0, 1, 0));
        refused(-3, "lots(3, 30, highest) without words", x -> x.lots(3, 30, HIGHEST));
        state = State.FULL;
        refused(1000000003, "idle(0) with 8 words", x -> x.idle(0));
        refused(1000000003, "idle(3) with 8 words", x -> x.idle(3));
    }

    private static void images() {
        for (State s : new State[] {State.NEW, State.PERSONS, State.FULL}) {
            state = s;
            refused(-3, "on() without an image", AnswerShorter::on);
        }
    }

    /** Of refusals that fit at once the first told one is answered, and it alone is counted. */
    private static void firstOfTwo() {
        state = State.FULL;
        refused(-4, "letter(-1) with 64", x -> x.letter(-1));
        refused(-6, "letter(256) with 64", x -> x.letter(256));
        refused(-1, "word(8, 2)", x -> x.word(8, 2));
        refused(-1, "row(8) with 6", x -> x.row(8));
        refused(-1, "row(-1) with 6", x -> x.row(-1));
        refused(-1, "told(8) with 6", x -> x.told(8));
        refused(-1, "told(-1) with 6", x -> x.told(-1));
        refused(-4, "follows(-1, 7)", x -> x.follows(-1, 7));
        refused(-4, "follows(7, -1)", x -> x.follows(7, -1));
        refused(-4, "follows(-1, -1)", x -> x.follows(-1, -1));
        refused(-1, "answer(4, -2)", x -> x.answer(4, -2));
        refused(-1, "best(4, -2)", x -> x.best(4, -2));
        refused(-1, "least(256, -2)", x -> x.least(256, -2));
        refused(-1, "force(256, -2)", x -> x.force(256, -2));
        refused(-1, "chance(8, 2)", x -> x.chance(8, 2));
        refused(-1, "saying(12, 3)", x -> x.saying(12, 3));
        refused(1000000001, "idle(4) with 8 words", x -> x.idle(4));
        refused(-1, "under(4, 5)", x -> x.under(4, 5));
        refused(-1, "lots(4, 0, 0)", x -> x.lots(4, 0, 0));
        refused(-1, "lots(4, 31, 0)", x -> x.lots(4, 31, 0));
        // Six words behind one, by FEWER, and twelve sayings are there.
        refused(-3, "say() with 12", AnswerShorter::say);
        state = State.PERSONS;
        refused(-4, "lots(0, 0, 0) without words", x -> x.lots(0, 0, 0));
        refused(-6, "lots(0, 31, 0) without words", x -> x.lots(0, 31, 0));
        refused(-4, "best(0, -2) without words", x -> x.best(0, -2));
        refused(-2, "under(0, 5) without words", x -> x.under(0, 5));
        state = State.NEW;
        refused(1000000001, "idle(0) of nobody without words", x -> x.idle(0));
        refused(-1, "lots(0, 1, 0) of nobody without words", x -> x.lots(0, 1, 0));
        refused(-1, "under(0, 0) of nobody without words", x -> x.under(0, 0));
        refused(-1, "best(0, -1) of nobody without words", x -> x.best(0, -1));
    }

    /** The same calls one step further in are answered. */
    private static void justInside() {
        about("just inside");
        state = State.FULL;
        AnswerShorter x = made();
        x.tongue();
        due("letter(0)", x.letter(0), 1);
        due("letter(255)", x.letter(255), 2);
        due("word(0, 0)", x.word(0, 0), 0);
        due("word(7, 1)", x.word(7, 1), 64);
        due("weight(0)", x.weight(0), 1);
        due("weight(7)", x.weight(7), 1);
        due("truth(7)", x.truth(7), 0);
        due("truth(0)", x.truth(0), 7);
        due("law(4)", x.law(4), 0);
        due("law(0)", x.law(0), 4);
        due("follows(6, 6)", x.follows(6, 6), 0);
        due("follows(0, 0)", x.follows(0, 0), 0);
        due("settles(0)", x.settles(0), 1);
        due("settles(255)", x.settles(255), 1);
        due("answer(0, -1) to no words by FEWER", x.answer(0, -1), -9);
        due("answer(3, 0) to no words by FEWER", x.answer(3, 0), -9);
        due("answers(0) to no words by FEWER", x.answers(0), 0);
        due("answers(7) to no words by FEWER", x.answers(7), 0);
        due("least(255, -1)", x.least(255, -1), 0);
        due("least(0, -1)", x.least(0, -1), 2);
        due("left(0) of no words by FEWER", x.left(0), 64);
        due("left(3) of no words by FEWER", x.left(3), 64);
        due("chance(0, 0)", x.chance(0, 0), 0);
        due("chance(7, 1)", x.chance(7, 1), 1);
        due("saying(0, 0)", x.saying(0, 0), 1);
        due("saying(11, 2)", x.saying(11, 2), 0);
        due("longest(1)", x.longest(1), 1);
        due("longest(6)", x.longest(6), 6);
        due("last(1)", x.last(1), 1);
        due("last(6)", x.last(6), 0);
        due("told(7) as the seventh", x.told(7), -6);
        due("meant(3) by six words", x.meant(3), 0);
        due("row(7)", x.row(7), 1);
        due("told(7)", x.told(7), 1);
        due("silence()", x.silence(), 12);
        due("say() as the first", x.say(), 1);
        due("refusals", counters(x), "0 0 0 0 0 1 ");
    }

    /** FAULTS and what answers -9 are no refusals. */
    private static void notCounted() {
        about("not counted");
        AnswerShorter x = with("ph;l1;");
        due("count(9)", x.count(9), -9);
        due("count(10)", x.count(10), -9);
        due("count(17)", x.count(17), -9);
        due("count(-1)", x.count(-1), -9);
        due("best(0, -1) without words", x.best(0, -1), -9);
        due("under(0, 4) without words", x.under(0, 4), -9);
        due("least(3, 0)", x.least(3, 0), -9);
        due("force(3, 0)", x.force(3, 0), -9);
        due("longest(1) without end", x.longest(1), -9);
        due("last(6) without end", x.last(6), -9);
        due("answer(0, 0) behind its end", x.answer(0, 0), -9);
        x.law(0);
        due("answer(0, -1) of the silent", x.answer(0, -1), -9);
        due("tongue() of nothing", x.tongue(), -1000);
        due("tongue() that lacks", tell(x, "n"), -1001);
        due("tongue() out of range", tell(x, "l5;"), -2000);
        due("refusals", counters(x), "0 0 0 0 0 0 ");
    }
}
