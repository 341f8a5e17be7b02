/** Every promise of the document on its own: ordinary calls, the edges that it names, and wrong ones. */
public final class PromiseTest extends Calls {
    public static void main(String[] args) {
        newObject();
        letter();
        tongueFaults();
        tongueComes();
        tongueRoom();
        word();
        weight();
        truth();
        law();
        row();
        means();
        follows();
        settles();
        answer();
        answers();
        least();
        left();
        best();
        force();
        told();
        meant();
        chance();
        say();
        saying();
        known();
        silence();
        longest();
        last();
        idle();
        under();
        lots();
        image();
        on();
        count();
        finish("PromiseTest");
    }

    private static void newObject() {
        about("promise 1");
        AnswerShorter x = new AnswerShorter();
        for (int what = 0; what <= 6; what++) {
            due("count(" + what + ")", x.count(what), 0);
        }
        due("count(7)", x.count(7), 8);
        due("count(8)", x.count(8), 0);
        for (int what = 11; what <= 16; what++) {
            due("count(" + what + ")", x.count(what), 0);
        }
        for (int c = 0; c < 8; c++) {
            due("weight", x.weight(c), 1);
        }
        due("known()", x.known(), 255);
        due("means()", x.means(), 255);
        due("word(0, 0)", x.word(0, 0), -1);
        due("left(0)", x.left(0), -1);
    }

    private static void letter() {
        about("promise 2");
        AnswerShorter x = new AnswerShorter();
        due("letter(0)", x.letter(0), 1);
        due("letter(255)", x.letter(255), 2);
        due("letter(-1)", x.letter(-1), -4);
        due("letter(lowest)", x.letter(LOWEST), -4);
        due("letter(256)", x.letter(256), -6);
        due("letter(highest)", x.letter(HIGHEST), -6);
        due("count(4)", x.count(4), 2);
        for (int k = 3; k <= 64; k++) {
            due("letter(110)", x.letter(110), k);
        }
        due("letter(110) with 64", x.letter(110), -6);
        due("letter(-1) with 64", x.letter(-1), -4);
        due("count(4)", x.count(4), 64);
        due("count(14)", x.count(14), 3);
        due("count(16)", x.count(16), 3);
    }

    private static void fault(String text, int want) {
        AnswerShorter x = new AnswerShorter();
        due("tongue of '" + text + "'", tell(x, text), want);
        due("count(4) behind '" + text + "'", x.count(4), 0);
        int words = 0;
        for (int what = 11; what <= 16; what++) {
            words += x.count(what);
        }
        due("refusals behind '" + text + "'", words, 0);
        if (want < 0) {
            due("words behind '" + text + "'", x.count(0), 0);
            due("persons behind '" + text + "'", x.count(1), 0);
            due("law behind '" + text + "'", x.count(5), 0);
            due("weights behind '" + text + "'", x.count(7), 8);
        }
    }

    private static void tongueFaults() {
        about("promise 3");
        String[] lacking = {"", "t", "t0", "t01234567", "n", "o", "i", "w", "w0", "w0,", "w0,1", "l", "l0", "p", "ph",
            "n;t", "w0,1;w", "ph;po"};
        for (String text : lacking) {
            fault(text, -1000 - text.length());
        }
        String[] lastIsWrong = {"x", "N", ";", " ", "0", ",", "t;", "tt", "t0,", "t012345670", "t012345678", "n0", "nn",
            "oo", "i,", "w,", "w;", "w0;", "w00", "w0,;", "w0,,", "w0,12", "l;", "l;", "ll", "l00", "p;", "pn", "pt", "ph,",
            "phh", "n;;", "n;x", "t0;w1,2;8", "pH", "t:", "t/", "w:", "l/"};
        for (String text : lastIsWrong) {
            fault(text, -1000 - (text.length() - 1));
            fault(text + "n;", -1000 - (text.length() - 1));
        }
        AnswerShorter x = new AnswerShorter();
        x.letter(255);
        due("tongue of the sign 255", x.tongue(), -1000);
        x.letter('n');
        x.letter(0);
        due("tongue of 'n' and the sign 0", x.tongue(), -1001);
        x.letter('p');
        x.letter('h' + 128);
        due("tongue of 'p' and a sign above 127", x.tongue(), -1001);
        String full = "l1;l1;l1;l1;l1;l1;l1;l1;l1;l1;l1;l1;l1;l1;l1;l1;l1;l1;l1;l1;l1;";
        due("tongue of 63 letters", tell(x, full), 21);
        due("tongue of 64 letters without their end", tell(x, full + "l"), -1064);
        due("tongue of 64 letters", tell(x, full.substring(0, 60) + "n;o;"), 22);
        String[] wrong = {"t8;", "t9;", "t08;", "t10;", "t00;", "t0122;", "t01234568;", "w8,0;", "w9,9;", "l5;", "l9;"};
        for (String text : wrong) {
            fault(text, -2000);
            fault("n;w0,9;ph;l3;" + text, -2013);
            fault(text + "l9;t8;", -2000);
            fault(text + "x", -1000 - text.length());
        }
    }

    private static void tongueComes() {
        about("promise 3");
        AnswerShorter x = new AnswerShorter();
        due("tongue()", tell(x, "t01234567;n;o;i;w3,9;l4;pg;"), 7);
        due("words", x.count(0), 4);
        due("persons", x.count(1), 1);
        due("law", x.count(5), 4);
        due("weights", x.count(7), 16);
        due("letters", x.count(4), 0);
        due("tongue()", tell(x, "w3,2;w3,0;l1;l2;t7;ph;po;pb;"), 8);
        due("words", x.count(0), 5);
        due("the word told last", x.word(4, 1), 128);
        due("persons", x.count(1), 4);
        due("law", x.count(5), 2);
        due("weight(3)", x.weight(3), 0);
        ask(x, 0, 4);
        due("tongue()", tell(x, "n;"), 1);
        due("THE ROW stays", x.count(3), 2);
    }

    private static void tongueRoom() {
        about("promise 3");
        AnswerShorter x = with("t0;t1;n;o;i;i;");
        due("a word too many", tell(x, "i;w0,5;n;l1;o;"), -2012);
        due("words", x.count(0), 6);
        due("weight(0)", x.weight(0), 1);
        due("law", x.count(5), 0);
        due("two words more", tell(x, "i;t2;"), 2);
        due("a word too many", tell(x, "t3;"), -2000);
        due("a word too many", tell(x, "n;"), -2000);
        due("a word too many", tell(x, "o;"), -2000);
        due("a word too many", tell(x, "l1;i;"), -2003);
        due("law", x.count(5), 0);
        due("persons", tell(x, "ph;po;pb;"), 3);
        due("a person too many", tell(x, "pg;pf;"), -2003);
        due("persons", x.count(1), 3);
        due("persons", tell(x, "pf;"), 1);
        due("a person too many", tell(x, "ph;"), -2000);
        due("a weight still comes", tell(x, "w0,5;"), 1);
    }

    private static void word() {
        about("promise 4");
        AnswerShorter x = with("t0246;n;o;i;t7;");
        int[] kinds = {0, 1, 2, 3, 0};
        int[] cases = {85, 0, 0, 0, 128};
        for (int w = 0; w < 5; w++) {
            due("word(" + w + ", 0)", x.word(w, 0), kinds[w]);
            due("word(" + w + ", 1)", x.word(w, 1), cases[w]);
            due("word(" + w + ", 2)", x.word(w, 2), -2);
            due("word(" + w + ", -1)", x.word(w, -1), -2);
        }
        due("word(5, 0)", x.word(5, 0), -1);
        due("word(5, 9)", x.word(5, 9), -1);
        due("word(-1, 0)", x.word(-1, 0), -1);
        due("word(lowest, 0)", x.word(LOWEST, 0), -1);
        due("word(highest, 0)", x.word(HIGHEST, 0), -1);
        due("count(11)", x.count(11), 5);
        due("count(12)", x.count(12), 10);
    }

    private static void weight() {
        about("promise 5");
        AnswerShorter x = with("w0,0;w3,7;w7,9;");
        int[] weights = {0, 1, 1, 7, 1, 1, 1, 9};
        for (int c = 0; c < 8; c++) {
            due("weight(" + c + ")", x.weight(c), weights[c]);
        }
        due("weight(8)", x.weight(8), -1);
        due("weight(-1)", x.weight(-1), -1);
        due("weight(lowest)", x.weight(LOWEST), -1);
        due("weight(highest)", x.weight(HIGHEST), -1);
        due("count(11)", x.count(11), 4);
    }

    private static void truth() {
        about("promise 6");
        AnswerShorter x = new AnswerShorter();
        due("truth(7)", x.truth(7), 0);
        due("truth(8)", x.truth(8), -1);
        due("truth(-1)", x.truth(-1), -1);
        due("truth(lowest)", x.truth(LOWEST), -1);
        due("truth(3)", x.truth(3), 7);
        due("truth(0)", x.truth(0), 3);
        due("count(6)", x.count(6), 0);
    }

    private static void law() {
        about("promise 7");
        AnswerShorter x = new AnswerShorter();
        due("law(4)", x.law(4), 0);
        due("law(5)", x.law(5), -2);
        due("law(-1)", x.law(-1), -2);
        due("law(highest)", x.law(HIGHEST), -2);
        due("law(2)", x.law(2), 4);
        due("law(0)", x.law(0), 2);
        due("count(12)", x.count(12), 3);
    }

    private static void row() {
        about("promise 8");
        AnswerShorter x = new AnswerShorter();
        due("row(0)", x.row(0), -1);
        tell(x, "t0;n;");
        ask(x, 0, 1, 0, 1, 0);
        due("row(2)", x.row(2), -1);
        due("row(-1)", x.row(-1), -1);
        due("row(highest)", x.row(HIGHEST), -1);
        due("row(1)", x.row(1), 6);
        due("row(1) with 6", x.row(1), -6);
        due("row(2) with 6", x.row(2), -1);
        due("count(3)", x.count(3), 6);
    }

    private static void means() {
        about("promise 9");
        // 0: {0,1,2,3}; 1: {0,1,4,5}; 2: NOT; 3: OR; 4: IDLE; 5: {7}
        AnswerShorter x = with("t0123;t0145;n;o;i;t7;");
        meansOf(x, 255);
        meansOf(x, 15, 0);
        meansOf(x, 3, 0, 1);
        meansOf(x, 240, 2, 0);
        meansOf(x, 15, 2, 2, 0);
        meansOf(x, 240, 2, 2, 2, 0);
        meansOf(x, 63, 0, 3, 1);
        meansOf(x, 63, 0, 3, 3, 1);
        meansOf(x, 15, 3, 0);
        meansOf(x, 3, 3, 0, 1);
        meansOf(x, 240, 3, 2, 0);
        meansOf(x, 207, 0, 3, 2, 1);
        meansOf(x, 207, 0, 2, 3, 1);
        meansOf(x, 15, 0, 3);
        meansOf(x, 15, 0, 2);
        meansOf(x, 255, 2);
        meansOf(x, 255, 3, 2, 4);
        meansOf(x, 240, 2, 4, 0);
        meansOf(x, 63, 0, 3, 4, 1);
        meansOf(x, 0, 0, 2, 0);
        meansOf(x, 3, 0, 3, 5, 1);
        meansOf(x, 131, 0, 1, 3, 5);
        meansOf(x, 191, 5, 3, 0, 3, 1);
        meansOf(x, 192, 5, 3, 2, 0, 2, 1);
    }

    private static void follows() {
        about("promise 10");
        // 0: {0}; 1: IDLE
        AnswerShorter x = with("t0;i;");
        followsBy(x, 1, 3, 0, 0, 0);
        followsBy(x, 0, 2, 0, 0, 0);
        followsBy(x, 0, 1, 0, 0, 0);
        followsBy(x, 0, 0, 0);
        followsBy(x, 1, 1, 1);
        followsBy(x, 0, 2, 0, 0, 1);
        x.law(1);
        followsBy(x, 1, 2, 0, 0, 0);
        followsBy(x, 0, 1, 0, 0, 0);
        followsBy(x, 1, 0, 0);
        followsBy(x, 0, 1, 0, 0, 1);
        followsBy(x, 1, 6, 6, 0, 0, 0, 0, 0, 0);
        x.law(2);
        followsBy(x, 1, 2, 0, 0, 1, 1);
        followsBy(x, 0, 2, 1, 0, 1, 1);
        followsBy(x, 0, 3, 2, 0);
        followsBy(x, 1, 1, 0, 1, 1);
        followsBy(x, 0, 1, 1, 1, 1);
        followsBy(x, 1, 6, 3, 0, 0);
        followsBy(x, 0, 2, 0, 0, 0);
        x.law(3);
        followsBy(x, 1, 1, 0, 0, 0);
        followsBy(x, 0, 2, 0, 0, 0);
        followsBy(x, 0, 0, 0, 0, 0);
        followsBy(x, 1, 0, 0, 1);
        followsBy(x, 1, 5, 5, 0, 0, 0, 0, 0, 0);
        followsBy(x, 0, 0, 0);
        x.law(4);
        followsBy(x, 1, 0, 0, 0, 0, 0, 0, 0, 0);
        followsBy(x, 1, 6, 0);
        ask(x, 0, 0);
        due("follows(-1, 0)", x.follows(-1, 0), -4);
        due("follows(0, -1)", x.follows(0, -1), -4);
        due("follows(7, -1)", x.follows(7, -1), -4);
        due("follows(lowest, highest)", x.follows(LOWEST, HIGHEST), -4);
        due("follows(7, 0)", x.follows(7, 0), -6);
        due("follows(3, 4)", x.follows(3, 4), -6);
        due("follows(highest, highest)", x.follows(HIGHEST, HIGHEST), -6);
        due("THE ROW behind refusals", x.count(3), 2);
        due("count(14)", x.count(14), 4);
        due("count(16)", x.count(16), 3);
    }

    private static void settles() {
        about("promise 11");
        // 0: {0,1}; 1: {2}
        AnswerShorter x = with("t01;t2;");
        settlesBy(x, 1, 3, 0);
        settlesBy(x, 1, 7, 0);
        settlesBy(x, 0, 1, 0);
        settlesBy(x, 0, 6, 0);
        settlesBy(x, 1, 252, 0);
        settlesBy(x, 1, 255, 0);
        settlesBy(x, 1, 0, 0);
        settlesBy(x, 0, 0, 0, 1);
        settlesBy(x, 0, 255, 0, 1);
        settlesBy(x, 0, 3, 0, 1);
        settlesBy(x, 1, 255);
        settlesBy(x, 1, 0);
        settlesBy(x, 0, 254);
        ask(x, 0);
        due("settles(256)", x.settles(256), -1);
        due("settles(-1)", x.settles(-1), -1);
        due("settles(lowest)", x.settles(LOWEST), -1);
        due("THE ROW behind refusals", x.count(3), 1);
        due("count(11)", x.count(11), 3);
    }

    private static void answer() {
        about("promise 12");
        // To {0,1} in three words there are "0", "0 0", "0 1" {0}, "0 2", "1 0" {0} and "2 0" {2..7}.
        AnswerShorter x = with(TWO_AND_NOT + "ph;po;pb;pg;");
        ask(x, 0, 0, 0);
        answerIs(x, 0, 0);
        answerIs(x, 1, 0, 1);
        answerIs(x, 2, 0);
        answerIs(x, 3, 0, 1);
        due("THE ROW stays", x.count(3), 3);
        x.truth(5);
        for (int p = 0; p < 4; p++) {
            answerIs(x, p, 2, 0);
        }
        x.means();
        ask(x, 0, 0);
        silent(x, 0);
        x.truth(1);
        answerIs(x, 3, 0);
        due("answer(4, 0)", x.answer(4, 0), -1);
        due("answer(-1, -2)", x.answer(-1, -2), -1);
        due("answer(0, -2)", x.answer(0, -2), -4);
        due("answer(0, lowest)", x.answer(0, LOWEST), -4);
        due("count(11)", x.count(11), 2);
        due("count(14)", x.count(14), 2);
        answerByKinds();
        answerByWeights();
        answerWithoutWords();
    }

    private static void answerByKinds() {
        // Under FREE, to {0,1}: sayings of up to three words with {0} or {0,1}.
        AnswerShorter x = with("t0;t01;l4;ph;po;pb;pg;");
        ask(x, 1);
        answerIs(x, 0, 1);
        answerIs(x, 1, 0);
        answerIs(x, 2, 1);
        answerIs(x, 3, 0, 0, 0);
        x.law(3);
        answerIs(x, 0, 1, 1);
        answerIs(x, 3, 0, 0);
        x.law(1);
        answerIs(x, 3, 0);
        AnswerShorter first = with("t0;t01;l4;pf;");
        ask(first, 1);
        answerIs(first, 0, 0);
        first.truth(1);
        answerIs(first, 0, 1);
        first.truth(2);
        silent(first, 0);
        AnswerShorter notOpen = with(TWO_AND_NOT + "pf;");
        ask(notOpen, 0, 0, 0);
        answerIs(notOpen, 0, 0);
    }

    private static void answerByWeights() {
        // {0,1,2} weighs less than {0,3} here, both within {0,1,2,3}.
        AnswerShorter x = with("t0123;t012;t03;w0,1;w1,0;w2,2;w3,5;l1;ph;po;pb;pg;");
        ask(x, 0);
        answerIs(x, 0, 0);
        answerIs(x, 1, 1);
        x.truth(3);
        answerIs(x, 1, 2);
        x.truth(1);
        answerIs(x, 3, 1);
    }

    private static void answerWithoutWords() {
        AnswerShorter x = with("l4;ph;pg;");
        answerIs(x, 0);
        answerIs(x, 1);
        x.law(1);
        answerIs(x, 1);
        x.law(3);
        silent(x, 0);
        // Idle words alone say nothing, but may be said where more words must be.
        AnswerShorter idle = with("i;l3;ph;");
        answerIs(idle, 0, 0);
        ask(idle, 0, 0);
        answerIs(idle, 0, 0, 0, 0);
        ask(idle, 0);
        silent(idle, 0);
    }

    private static void answers() {
        about("promise 13");
        AnswerShorter x = with(TWO_AND_NOT);
        ask(x, 0, 0, 0);
        answersAre(x, 5, 3, 1, 1, 1, 1, 1, 1);
        due("THE ROW stays", x.count(3), 3);
        x.means();
        ask(x, 0, 0);
        answersAre(x, 1, 1, 0, 0, 0, 0, 0, 0);
        AnswerShorter free = with("t0;t01;l4;");
        ask(free, 1);
        answersAre(free, 14, 3, 0, 0, 0, 0, 0, 0);
        free.law(3);
        answersAre(free, 4, 1, 0, 0, 0, 0, 0, 0);
        free.means();
        // All CASES are asked: every saying that is not empty settles.
        free.law(4);
        answersAre(free, 15, 4, 1, 1, 1, 1, 1, 1);
        AnswerShorter bare = with("t0;i;l2;");
        ask(bare, 0, 0);
        // Fewer than two bare words: "0" with idle ones in any places.
        answersAre(bare, 6, 0, 0, 0, 0, 0, 0, 0);
        due("answers(8)", x.answers(8), -1);
        due("answers(-1)", x.answers(-1), -1);
        due("answers(highest)", x.answers(HIGHEST), -1);
        due("count(11)", x.count(11), 3);
        AnswerShorter full = with("i;i;i;i;i;i;i;i;l4;");
        answersAre(full, 585, 585, 585, 585, 585, 585, 585, 585);
    }

    private static void least() {
        about("promise 14");
        // 0: {0,1}; 1: {1,2}; 2: NOT; 3: OR; 4: IDLE
        AnswerShorter x = with("t01;t12;n;o;i;");
        leastIs(x, 255);
        leastIs(x, 3, 0);
        leastIs(x, 6, 1);
        leastIs(x, 2, 0, 1);
        leastIs(x, 7, 0, 3, 1);
        leastIs(x, 252, 2, 0);
        leastIs(x, 1, 0, 2, 1);
        leastIs(x, 4, 1, 2, 0);
        leastIs(x, 0, 0, 2, 0);
        leastIs(x, 248, 2, 0, 2, 1);
        leastIs(x, 254, 1, 2, 3, 0);
        for (int i = -1; i < 5; i++) {
            due("least(8, " + i + ")", x.least(8, i), -9);
            due("least(253, " + i + ")", x.least(253, i), -9);
        }
        due("least(256, -2)", x.least(256, -2), -1);
        due("least(-1, 0)", x.least(-1, 0), -1);
        due("least(0, -2)", x.least(0, -2), -4);
        due("count(11)", x.count(11), 2);
        due("count(14)", x.count(14), 1);
        tell(x, "t3;");
        leastIs(x, 8, 5);
        AnswerShorter none = new AnswerShorter();
        leastIs(none, 255);
        due("least(0, -1) without words", none.least(0, -1), -9);
        AnswerShorter one = with("t0;");
        leastIs(one, 1, 0);
        due("least(254, -1)", one.least(254, -1), -9);
    }

    private static void left() {
        about("promise 15");
        AnswerShorter x = with(TWO_AND_NOT + "ph;po;");
        leftIs(x, 40, 0, 0, 0, 0);
        leftIs(x, 39, 1, 0, 0, 0);
        leftIs(x, 64, 0, 0);
        leftIs(x, 52, 0, 0, 0);
        x.truth(5);
        leftIs(x, 40, 0, 0, 0, 0);
        // Weights 5, 0, 2, 1, 1, 1, 1, 1: {0,1} weighs 5, {0} too, {2..7} 7, all of them 12.
        tell(x, "w0,5;w1,0;w2,2;");
        leftIs(x, 25 + 49, 0, 0, 0, 0);
        leftIs(x, 25 + 7 * 12, 0, 0, 0);
        leftIs(x, 144, 1, 0);
        ask(x, 0, 0, 0);
        due("left(2)", x.left(2), -1);
        due("left(-1)", x.left(-1), -1);
        due("THE ROW behind refusals", x.count(3), 3);
        due("count(11)", x.count(11), 2);
        AnswerShorter heavy = with("ph;w0,9;w1,9;w2,9;w3,9;w4,9;w5,9;w6,9;w7,9;");
        leftIs(heavy, 72 * 72, 0);
    }

    private static void best() {
        about("promise 16");
        AnswerShorter x = with(TWO_AND_NOT + "ph;");
        ask(x, 2, 1);
        bestIs(x, 0, 40, 0, 0, 0);
        due("THE ROW stays", x.count(3), 2);
        // To {1} there are then {1} itself, {0,2} for 0, and {2..7}: 1 + 2 + 6 * 6.
        x.law(4);
        bestIs(x, 0, 39, 0, 2, 1);
        // Weights of 0 everywhere but in 1 and 3: "0" parts them, "1" does not.
        tell(x, "w0,0;w2,0;w4,0;w5,0;w6,0;w7,0;");
        bestIs(x, 0, 2, 0);
        tell(x, "w1,0;w3,1;w2,1;");
        bestIs(x, 0, 2, 1);
        AnswerShorter four = with("t012;t234;t456;t067;l3;ph;");
        bestIs(four, 0, 24, 0, 2);
        due("best(1, -2)", x.best(1, -2), -1);
        due("best(-1, 0)", x.best(-1, 0), -1);
        due("best(0, -2)", x.best(0, -2), -4);
        due("best(0, lowest)", x.best(0, LOWEST), -4);
        AnswerShorter none = with("ph;");
        for (int i = -1; i < 5; i++) {
            due("best(0, " + i + ") without words", none.best(0, i), -9);
        }
        due("best(0, -2) without words", none.best(0, -2), -4);
        due("best(1, -1) without words", none.best(1, -1), -1);
        due("count(11)", x.count(11), 2);
        due("count(14)", x.count(14), 2);
    }

    private static void force() {
        about("promise 17");
        AnswerShorter x = with(TWO_AND_NOT);
        forceIs(x, 3, 0, 0, 0);
        forceIs(x, 252, 0, 0, 0);
        forceIs(x, 5, 1, 1, 1);
        forceIs(x, 255, 2);
        forceIs(x, 0, 2);
        forceIs(x, 1, 0, 0, 1);
        due("force(2, -1)", x.force(2, -1), -9);
        due("force(2, 0)", x.force(2, 0), -9);
        // Only 0 and 1 weigh, so that nothing need be answered in other cases.
        tell(x, "w2,0;w3,0;w4,0;w5,0;w6,0;w7,0;");
        forceIs(x, 3, 0, 0);
        // An answer's cases without weight count, too: "0" means {0,1}, so that "0 0" does not do.
        tell(x, "w1,0;");
        forceIs(x, 1, 0, 0, 1);
        tell(x, "w0,0;");
        forceIs(x, 1, 0);
        due("force(256, -2)", x.force(256, -2), -1);
        due("force(-1, -1)", x.force(-1, -1), -1);
        due("force(0, -2)", x.force(0, -2), -4);
        due("count(11)", x.count(11), 2);
        due("count(14)", x.count(14), 1);
        // "1" would answer "0 0" where 2 or 3 is true, but neither weighs: that it parts {0,1,2} is nothing.
        AnswerShorter parted = with("t01;t23;w2,0;w3,0;w4,0;w5,0;w6,0;w7,0;");
        forceIs(parted, 7, 0, 0);
        tell(parted, "w3,1;");
        due("force(7, -1), 3 weighing", parted.force(7, -1), -9);
        AnswerShorter none = new AnswerShorter();
        due("force(255, -1) without words", none.force(255, -1), -9);
    }

    private static void told() {
        about("promise 18");
        AnswerShorter x = new AnswerShorter();
        due("told(0)", x.told(0), -1);
        tell(x, "t0;n;");
        hear(x, 1, 0, 1, 0, 1);
        due("told(2)", x.told(2), -1);
        due("told(-1)", x.told(-1), -1);
        due("told(0)", x.told(0), 6);
        due("told(0) with 6", x.told(0), -6);
        due("told(2) with 6", x.told(2), -1);
        due("count(8)", x.count(8), 6);
        due("count(3)", x.count(3), 0);
    }

    private static void meant() {
        about("promise 19");
        AnswerShorter x = with(TWO_AND_NOT + "ph;po;");
        ask(x, 0, 0, 0);
        hear(x, 2, 0);
        meantIs(x, 252, 0);
        ask(x, 0, 0, 0);
        hear(x, 0);
        meantIs(x, 3, 0);
        ask(x, 0, 0, 0);
        hear(x, 0);
        meantIs(x, 2, 1);
        ask(x, 0, 0, 0);
        hear(x, 0, 1);
        meantIs(x, 1, 1);
        // It would mean as much, but it is not the answer that is given.
        ask(x, 0, 0, 0);
        hear(x, 1, 0);
        meantIs(x, 0, 1);
        ask(x, 0, 0, 0);
        meantIs(x, 0, 0);
        ask(x, 0, 0, 0);
        hear(x, 2, 0, 2, 2);
        meantIs(x, 0, 0);
        // To all CASES the answer is the saying without words.
        ask(x, 2);
        meantIs(x, 255, 0);
        // Silence is no saying without words.
        ask(x, 0);
        meantIs(x, 0, 0);
        ask(x, 0);
        hear(x, 0, 0);
        due("meant(2)", x.meant(2), -1);
        due("meant(-1)", x.meant(-1), -1);
        due("THE ROW behind refusals", x.count(3), 1);
        due("the told answer behind refusals", x.count(8), 2);
        due("count(11)", x.count(11), 2);
    }

    private static void chance() {
        about("promise 20");
        AnswerShorter x = with(TWO_AND_NOT + "ph;w2,2;w3,4;");
        chanceIs(x, 2, 0, 1);
        ask(x, 0, 0, 0);
        hear(x, 2, 0);
        due("meant(0)", x.meant(0), 252);
        chanceIs(x, 0, 0, 1);
        chanceIs(x, 2, 1, 5);
        chanceIs(x, 3, 2, 5);
        chanceIs(x, 4, 1, 10);
        tell(x, "w4,0;w2,8;w3,9;");
        // 8, 9, 0, 1, 1, 1 weigh 20.
        chanceIs(x, 2, 2, 5);
        chanceIs(x, 3, 9, 20);
        chanceIs(x, 4, 0, 1);
        tell(x, "w3,0;w5,0;w6,0;w7,0;");
        chanceIs(x, 2, 1, 1);
        tell(x, "w2,0;");
        chanceIs(x, 2, 0, 1);
        due("chance(8, 2)", x.chance(8, 2), -1);
        due("chance(-1, 0)", x.chance(-1, 0), -1);
        due("chance(0, 2)", x.chance(0, 2), -2);
        due("chance(0, -1)", x.chance(0, -1), -2);
        due("count(11)", x.count(11), 2);
        due("count(12)", x.count(12), 2);
        due("meant(1)", x.meant(1), -1);
        tell(x, "w2,3;");
        chanceIs(x, 2, 1, 1);
        due("meant(0)", x.meant(0), 0);
        chanceIs(x, 2, 0, 1);
    }

    private static void say() {
        about("promise 21");
        AnswerShorter x = with("t01;t02;i;");
        said(x, 1, 0, 0, 0);
        due("THE ROW behind say()", x.count(3), 0);
        ask(x, 0, 0, 0);
        due("say() of as many", x.say(), -3);
        due("THE ROW behind a refusal", x.count(3), 3);
        due("count(2)", x.count(2), 1);
        x.law(1);
        due("say() of as many under SAME", x.say(), 2);
        x.law(2);
        said(x, 3, 0, 0, 2, 2);
        ask(x, 2, 0, 1);
        due("say() of as many bare ones", x.say(), -3);
        x.means();
        x.law(3);
        said(x, 4, 0, 0, 0, 0, 0);
        x.law(4);
        for (int k = 5; k <= 12; k++) {
            said(x, k);
        }
        due("say() with 12", x.say(), -6);
        ask(x, 0);
        due("say() with 12", x.say(), -6);
        due("THE ROW behind a refusal", x.count(3), 1);
        x.law(0);
        due("say() with 12 that may not follow", x.say(), -3);
        due("count(2)", x.count(2), 12);
        due("count(13)", x.count(13), 3);
        due("count(16)", x.count(16), 2);
        AnswerShorter any = with("t0;l3;");
        said(any, 1, 0, 0, 0, 0, 0, 0);
    }

    private static void saying() {
        about("promise 22");
        AnswerShorter x = with("t01;t02;i;n;l4;");
        said(x, 1, 0, 2, 1, 2);
        said(x, 2, 3, 0);
        said(x, 3);
        int[][] want = {{4, 1, 2}, {2, 252, 0}, {0, 255, 0}};
        for (int i = 0; i < 3; i++) {
            for (int what = 0; what < 3; what++) {
                due("saying(" + i + ", " + what + ")", x.saying(i, what), want[i][what]);
            }
            due("saying(" + i + ", 3)", x.saying(i, 3), -2);
            due("saying(" + i + ", -1)", x.saying(i, -1), -2);
        }
        due("saying(3, 3)", x.saying(3, 3), -1);
        due("saying(-1, 0)", x.saying(-1, 0), -1);
        due("saying(lowest, 0)", x.saying(LOWEST, 0), -1);
        due("saying(highest, 0)", x.saying(HIGHEST, 0), -1);
        due("count(11)", x.count(11), 4);
        due("count(12)", x.count(12), 6);
    }

    private static void known() {
        about("promise 23");
        // 0: {0,1,2}; 1: {0,1,3}; 2: {0,2,3}; 3: {7}
        AnswerShorter x = with("t012;t013;t023;t7;l4;");
        due("known()", x.known(), 255);
        said(x, 1, 3);
        due("known() behind a question", x.known(), 255);
        said(x, 2, 0);
        due("known() behind an answer", x.known(), 7);
        said(x, 3, 3);
        due("known() behind a question", x.known(), 7);
        said(x, 4, 1);
        due("known() behind two answers", x.known(), 3);
        said(x, 5, 3);
        said(x, 6, 2);
        due("known() behind three answers", x.known(), 1);
        said(x, 7);
        said(x, 8, 3);
        due("known() behind an answer that cannot be", x.known(), 0);
    }

    private static void silence() {
        about("promise 24");
        AnswerShorter x = with("t0;l4;");
        due("silence()", x.silence(), 0);
        said(x, 1, 0);
        said(x, 2, 0);
        ask(x, 0);
        due("silence()", x.silence(), 2);
        due("count(2)", x.count(2), 0);
        due("THE ROW behind silence()", x.count(3), 1);
        due("known()", x.known(), 255);
        x.law(0);
        due("say() as the first", x.say(), 1);
        due("silence()", x.silence(), 1);
    }

    private static void longest() {
        about("promise 25");
        AnswerShorter x = new AnswerShorter();
        int[][] want = {{1, 2, 3, 4, 5, 6}, {-9, -9, -9, -9, -9, -9}, {1, 2, 3, 4, 5, 6}, {6, 5, 4, 3, 2, 1},
            {-9, -9, -9, -9, -9, -9}};
        for (int law = 0; law < 5; law++) {
            x.law(law);
            for (int n = 1; n <= 6; n++) {
                due("longest(" + n + ") by law " + law, x.longest(n), want[law][n - 1]);
            }
            due("longest(0)", x.longest(0), -4);
            due("longest(lowest)", x.longest(LOWEST), -4);
            due("longest(7)", x.longest(7), -6);
            due("longest(highest)", x.longest(HIGHEST), -6);
        }
        due("count(14)", x.count(14), 10);
        due("count(16)", x.count(16), 10);
    }

    private static void last() {
        about("promise 26");
        AnswerShorter x = new AnswerShorter();
        int[][] want = {{1, 0, 0, 0, 0, 0}, {-9, -9, -9, -9, -9, -9}, {1, 0, 0, 0, 0, 0}, {0, 1, 0, 1, 0, 1},
            {-9, -9, -9, -9, -9, -9}};
        for (int law = 0; law < 5; law++) {
            x.law(law);
            for (int n = 1; n <= 6; n++) {
                due("last(" + n + ") by law " + law, x.last(n), want[law][n - 1]);
            }
            due("last(0)", x.last(0), -4);
            due("last(-1)", x.last(-1), -4);
            due("last(7)", x.last(7), -6);
            due("last(highest)", x.last(HIGHEST), -6);
        }
        due("count(14)", x.count(14), 10);
        due("count(16)", x.count(16), 10);
    }

    private static void idle() {
        about("promise 27");
        // With an idle word "i i i" answers "0 2", which asks of no case: what was left by it, 24, grows,
        // and "0 1", which asks of {2} and leaves 1 + 5 * 3 + 2 * 8, is the best then.
        AnswerShorter x = with("t012;t234;t456;t067;l3;ph;");
        ask(x, 0);
        due("idle(0)", x.idle(0), -8);
        due("idle(0) once more", x.idle(0), -8);
        due("count(0)", x.count(0), 4);
        due("THE ROW stays", x.count(3), 1);
        x.law(4);
        due("idle(0) by FREE", x.idle(0), 0);
        x.law(3);
        tell(x, "i;");
        due("idle(0) with one", x.idle(0), 0);
        due("idle(1)", x.idle(1), 1000000001);
        due("idle(-1)", x.idle(-1), 1000000001);
        tell(x, "i;i;");
        due("idle(0) with 7 words", x.idle(0), 0);
        tell(x, "i;");
        due("idle(0) with 8 words", x.idle(0), 1000000003);
        due("idle(1) with 8 words", x.idle(1), 1000000001);
        due("count(11)", x.count(11), 3);
        due("count(13)", x.count(13), 1);
        AnswerShorter none = with("ph;");
        due("idle(0) without words", none.idle(0), 1000000003);
    }

    private static void under() {
        about("promise 28");
        AnswerShorter x = with(TWO_AND_NOT + "ph;");
        due("under(0, 0)", x.under(0, 0), 40);
        due("under(0, 4)", x.under(0, 4), 39);
        AnswerShorter four = with("t012;t234;t456;t067;ph;l4;");
        due("under(0, 3)", four.under(0, 3), 24);
        due("best(0, -1)", four.best(0, -1), 32);
        due("under(0, 4)", four.under(0, 4), 32);
        due("the law stays", four.count(5), 4);
        due("under(0, 5)", x.under(0, 5), -2);
        due("under(0, -1)", x.under(0, -1), -2);
        due("under(1, 5)", x.under(1, 5), -1);
        due("under(-1, 0)", x.under(-1, 0), -1);
        due("count(11)", x.count(11), 2);
        due("count(12)", x.count(12), 2);
        AnswerShorter none = with("ph;");
        due("under(0, 0) without words", none.under(0, 0), -9);
        due("under(0, 5) without words", none.under(0, 5), -2);
    }

    private static void lots() {
        about("promise 29");
        // With one word only the length is drawn: seed 0 draws three words, 1 one, 1000 two (behind a sign).
        AnswerShorter x = with("t0;pf;w0,4;");
        x.law(3);
        due("lots(0, 1, 0) by MORE", x.lots(0, 1, 0), 11);
        due("lots(0, 1, 1) by MORE", x.lots(0, 1, 1), 4);
        due("lots(0, 1, 1000) by MORE", x.lots(0, 1, 1000), 4);
        x.law(0);
        due("lots(0, 1, 0) by FEWER", x.lots(0, 1, 0), 4);
        due("lots(0, 1, 1) by FEWER", x.lots(0, 1, 1), 11);
        due("lots(0, 1, 1000) by FEWER", x.lots(0, 1, 1000), 4);
        x.truth(1);
        due("lots(0, 30, 0) of the silent", x.lots(0, 30, 0), 11);
        ask(x, 0);
        due("lots(1, 0, 0)", x.lots(1, 0, 0), -1);
        due("lots(-1, 1, 0)", x.lots(-1, 1, 0), -1);
        due("lots(0, 0, 0)", x.lots(0, 0, 0), -4);
        due("lots(0, lowest, 0)", x.lots(0, LOWEST, 0), -4);
        due("lots(0, 31, 0)", x.lots(0, 31, 0), -6);
        due("lots(0, highest, 0)", x.lots(0, HIGHEST, 0), -6);
        due("THE ROW stays", x.count(3), 1);
        due("count(11)", x.count(11), 2);
        due("count(14)", x.count(14), 2);
        due("count(16)", x.count(16), 2);
        AnswerShorter none = with("ph;");
        due("lots(0, 0, 0) without words", none.lots(0, 0, 0), -4);
        due("lots(0, 31, 0) without words", none.lots(0, 31, 0), -6);
        due("lots(0, 1, 0) without words", none.lots(0, 1, 0), -3);
        lotsMeet();
    }

    /** Many questions leave what all answers have in common: {0} of {0,1}, {0,2} and what they join to. */
    private static void lotsMeet() {
        AnswerShorter x = with("t01;t02;l4;pf;w0,9;w1,5;w2,3;");
        due("lots(0, 30, 7)", x.lots(0, 30, 7), 9);
        x.truth(1);
        due("lots(0, 30, 7), 1 being true", x.lots(0, 30, 7), 14);
        x.truth(3);
        due("lots(0, 30, 7), 3 being true", x.lots(0, 30, 7), 22);
    }

    private static AnswerShorter talked() {
        AnswerShorter x = with(TWO_AND_NOT + "ph;w2,2;w3,4;l4;");
        x.truth(6);
        said(x, 1, 0);
        said(x, 2, 2, 0);
        x.law(0);
        ask(x, 0, 0, 0);
        hear(x, 2, 0);
        due("meant(0)", x.meant(0), 252);
        return x;
    }

    private static void asTalked(AnswerShorter x) {
        int[] want = {3, 1, 2, 0, 0, 0, 6, 12, 0};
        for (int what = 0; what < want.length; what++) {
            if (what != 4) {
                due("count(" + what + ")", x.count(what), want[what]);
            }
        }
        due("word(1, 1)", x.word(1, 1), 5);
        due("weight(3)", x.weight(3), 4);
        due("known()", x.known(), 252);
        due("saying(1, 1)", x.saying(1, 1), 252);
        chanceIs(x, 3, 2, 5);
        // {0,2} weighs 3, the others 9.
        due("best(0, -1)", x.best(0, -1), 3 * 3 + 9 * 9);
        due("least(8, -1)", x.least(8, -1), -9);
    }

    private static void change(AnswerShorter x) {
        due("tongue()", tell(x, "t3;o;pf;w3,0;w5,7;l4;"), 6);
        x.truth(1);
        x.silence();
        said(x, 1, 3);
        said(x, 2, 3, 3);
        said(x, 3, 3, 3, 3);
        ask(x, 3);
        hear(x, 3);
        due("meant(1)", x.meant(1), 8);
        ask(x, 4, 3);
        hear(x, 4);
        due("least(8, -1)", x.least(8, -1), 1);
        x.best(0, 0);
    }

    private static void image() {
        about("promise 30");
        AnswerShorter empty = new AnswerShorter();
        due("image() of nothing", empty.image(), 0);
        AnswerShorter x = talked();
        ask(x, 0, 1);
        hear(x, 2);
        due("image()", x.image(), 3);
        due("THE ROW stays", x.count(3), 2);
        due("the told answer stays", x.count(8), 1);
        x.meant(0);
        change(x);
        due("image() once more", x.image(), 5);
        due("on()", x.on(), 5);
        due("count(0)", x.count(0), 5);
        due("count(2)", x.count(2), 3);
        chanceIs(x, 3, 0, 1);
    }

    private static void on() {
        about("promise 31");
        AnswerShorter x = talked();
        due("on() without an image", x.on(), -3);
        due("count(13)", x.count(13), 1);
        asTalked(x);
        due("image()", x.image(), 3);
        for (int times = 0; times < 3; times++) {
            change(x);
            due("on()", x.on(), 3);
            asTalked(x);
        }
        ask(x, 0, 1);
        hear(x, 2);
        due("on()", x.on(), 3);
        asTalked(x);
        due("a word that is no more", x.row(3), -1);
        due("a person that is no more", x.left(1), -1);
        AnswerShorter empty = new AnswerShorter();
        empty.image();
        tell(empty, "t0;ph;");
        due("on()", empty.on(), 0);
        due("count(0)", empty.count(0), 0);
        due("count(1)", empty.count(1), 0);
    }

    private static void count() {
        about("promise 32");
        AnswerShorter x = with("t0;n;o;ph;pf;w3,9;l4;");
        x.truth(5);
        said(x, 1);
        said(x, 2, 0);
        said(x, 3, 1);
        said(x, 4, 2);
        ask(x, 0, 0, 0, 0, 0);
        hear(x, 0, 0, 0, 0, 0, 0);
        letters(x, "nnnnnnn");
        int[] want = {3, 2, 4, 5, 7, 4, 5, 16, 6};
        for (int what = 0; what < want.length; what++) {
            due("count(" + what + ")", x.count(what), want[what]);
        }
        int[] others = {9, 10, 17, -1, 100, LOWEST, HIGHEST};
        for (int what : others) {
            due("count(" + what + ")", x.count(what), -9);
        }
        x.weight(8);
        x.law(5);
        x.law(6);
        x.on();
        x.on();
        x.on();
        for (int k = 0; k < 4; k++) {
            x.letter(-1);
        }
        for (int k = 0; k < 6; k++) {
            x.letter(256);
        }
        int[] refused = {1, 2, 3, 4, 0, 6};
        for (int k = 0; k < 6; k++) {
            due("count(" + (11 + k) + ")", x.count(11 + k), refused[k]);
        }
    }
}
