/** What README.md shows a user: its example, its table of statements and its table of calls. */
public final class ReadmeTest extends Calls {
    public static void main(String[] args) {
        example();
        statements();
        calls();
        refusals();
        finish("ReadmeTest");
    }

    private static void example() {
        about("the example");
        AnswerShorter x = new AnswerShorter();
        for (char c : "t01;t02;n;ph;".toCharArray()) {
            x.letter(c);
        }
        due("tongue()", x.tongue(), 4);
        ask(x, 0, 0, 0);
        due("answers(0)", x.answers(0), 5);
        due("answer(0, -1)", x.answer(0, -1), 1);
        due("answer(0, 0)", x.answer(0, 0), 0);
        due("left(0)", x.left(0), 40);
        due("THE ROW", x.count(3), 0);
        due("best(0, -1)", x.best(0, -1), 40);
    }

    private static void statements() {
        about("the table of statements");
        AnswerShorter x = with("t07;n;o;i;w3,9;l2;");
        due("kind of t", x.word(0, 0), 0);
        due("cases of t", x.word(0, 1), 1 + 128);
        due("kind of n", x.word(1, 0), 1);
        due("kind of o", x.word(2, 0), 2);
        due("kind of i", x.word(3, 0), 3);
        due("weight of case 3", x.weight(3), 9);
        due("the law", x.count(5), 2);
        due("further persons", tell(x, "ph;po;pb;pg;"), 4);
        due("persons", x.count(1), 4);
        due("words, still", x.count(0), 4);
        due("the first answer", tell(new AnswerShorter(), "pf;"), 1);
        due("a text that cannot go on", tell(x, "n;x"), -1002);
        due("a statement out of range", tell(x, "n;l5;"), -2002);
        due("words, still", x.count(0), 4);
    }

    private static void calls() {
        about("the table of calls");
        AnswerShorter x = with("t01;t02;n;ph;");
        meansOf(x, 3, 0);
        followsBy(x, 1, 2, 0, 0);
        settlesBy(x, 1, 3, 0);
        leftIs(x, 64, 0, 0);
        ask(x, 0, 0);
        hear(x, 0);
        meantIs(x, 3, 0);
        chanceIs(x, 1, 1, 2);
        leastIs(x, 3, 0);
        forceIs(x, 255, 2);
        said(x, 1, 0, 1);
        said(x, 2, 0);
        due("words of the second saying", x.saying(1, 0), 1);
        due("known()", x.known(), 3);
        due("image()", x.image(), 3);
        due("silence()", x.silence(), 2);
        due("on()", x.on(), 3);
        due("the talk", x.count(2), 2);
    }

    private static void refusals() {
        about("the refusals");
        AnswerShorter x = with("t01;t02;n;ph;");
        due("no such case", x.weight(8), -1);
        due("no such what", x.word(0, 2), -2);
        due("not in this state", x.on(), -3);
        due("too low", x.letter(-1), -4);
        due("too high", x.letter(256), -6);
        due("refused by idle", x.idle(1), 1000000001);
        due("refusals -1", x.count(11), 2);
        for (int what = 12; what <= 16; what++) {
            due("count(" + what + ")", x.count(what), what == 15 ? 0 : 1);
        }
    }
}
