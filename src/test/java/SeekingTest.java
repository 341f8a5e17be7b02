/** The paragraph "II." as far as something is sought, reckoned or drawn: its boundaries, each by itself. */
public final class SeekingTest extends Calls {
    /** All CASES but 0, all but 1, .. all but 6. */
    private static final String ALL_BUT_ONE =
        "t1234567;t0234567;t0134567;t0124567;t0123567;t0123467;t0123457;";

    public static void main(String[] args) {
        leastByLength();
        leastOfFour();
        leastOfFive();
        leastFirst();
        leftOfSilent();
        leftByWeights();
        leftOfAll();
        leftWhateverIsTrue();
        bestIsAsked();
        bestOfThreeWords();
        bestFirst();
        bestWithoutWords();
        bestByKindAndLaw();
        bestAnew();
        forceByWeights();
        forceIsAsked();
        forceOfThreeWords();
        forceEachAnswer();
        forceWithoutWords();
        meantExactly();
        meantByLength();
        meantOfSilent();
        chanceWithout();
        chanceOutside();
        chanceWeights();
        chanceLeastTerms();
        idleWorth();
        idleAnew();
        idleRooms();
        under();
        lotsDraws();
        lotsSeeds();
        lotsMany();
        lotsAnswers();
        finish("SeekingTest");
    }

    private static void weigh(AnswerShorter x, String weights) {
        StringBuilder text = new StringBuilder();
        for (int c = 0; c < weights.length(); c++) {
            text.append('w').append(c).append(',').append(weights.charAt(c)).append(';');
        }
        due("weights " + weights, tell(x, text.toString()), weights.length());
    }

    // ---- LEAST

    private static void leastByLength() {
        about("LEAST of a SET: the fewest WORDS (0 .. 4)");
        // 0: {0}; 1: {1}; 2: NOT; 3: OR
        AnswerShorter x = with("t0;t1;n;o;");
        leastIs(x, 255);
        leastIs(x, 1, 0);
        leastIs(x, 0, 0, 1);
        leastIs(x, 254, 2, 0);
        leastIs(x, 3, 0, 3, 1);
        leastIs(x, 252, 2, 0, 2, 1);
        due("THE ROW", x.count(3), 0);
        AnswerShorter none = new AnswerShorter();
        leastIs(none, 255);
        for (int set = 0; set < 255; set++) {
            due("least(" + set + ", -1) without words", none.least(set, -1), -9);
        }
    }

    private static void leastOfFour() {
        about("LEAST of 4 WORDS, of 8 there are");
        AnswerShorter x = with("t0;t1;t2;t3;t4;t5;n;o;");
        leastIs(x, 255 - 16 - 32, 6, 4, 6, 5);
        leastIs(x, 255 - 1 - 2, 6, 0, 6, 1);
        leastIs(x, 255 - 1 + 1);
        // All but {4}, or {4}: all CASES; all but {4}, or {5}: no more than all but {4}.
        leastIs(x, 255 - 16, 6, 4);
        leastIs(x, 32, 5);
        leastIs(x, 48, 4, 7, 5);
    }

    private static void leastOfFive() {
        about("LEAST: -9, where five WORDS would do");
        AnswerShorter x = with("t0;t1;t2;o;");
        leastIs(x, 3, 0, 3, 1);
        for (int i = -1; i <= 5; i++) {
            due("least(7, " + i + ")", x.least(7, i), -9);
        }
        meansOf(x, 7, 0, 3, 1, 3, 2);
    }

    private static void leastFirst() {
        about("LEAST: the first such saying");
        leastIs(with("i;t0;t0;"), 1, 1);
        leastIs(with("i;i;"), 255);
        leastIs(with("t01;t02;t0;"), 1, 2);
        leastIs(with("t01;t02;"), 1, 0, 1);
        leastIs(with("n;n;t0;"), 254, 0, 2);
        leastIs(with("t0;o;o;t1;"), 3, 0, 1, 3);
        leastIs(with("t1;t0;o;"), 3, 0, 2, 1);
        // {0,1} or {2,3}, met with {1,2,5}.
        leastIs(with("t125;t01;t23;o;"), 6, 1, 3, 2, 0);
    }

    // ---- LEFT

    private static void leftOfSilent() {
        about("LEFT: all CASES, if silent");
        AnswerShorter x = with("t0;ph;po;pb;pg;");
        for (int p = 0; p < 4; p++) {
            leftIs(x, 64, p, 0);
            leftIs(x, 64, p);
            leftIs(x, 1 + 7 * 8, p, 0, 0);
        }
        weigh(x, "39020000");
        leftIs(x, 14 * 14, 0, 0);
        leftIs(x, 3 * 3 + 11 * 14, 0, 0, 0);
    }

    private static void leftByWeights() {
        about("LEFT: WEIGHT times WEIGHT of what is left");
        AnswerShorter x = with("t0;l4;ph;po;");
        leftIs(x, 64, 0);
        leftIs(x, 1 + 7 * 8, 1);
        weigh(x, "0");
        leftIs(x, 49, 0);
        leftIs(x, 49, 1);
        weigh(x, "2");
        leftIs(x, 81, 0);
        leftIs(x, 4 + 7 * 9, 1);
    }

    private static void leftOfAll() {
        about("LEFT where no CASE has WEIGHT, and where each has the greatest");
        AnswerShorter x = with("t0;l4;ph;po;");
        weigh(x, "00000000");
        leftIs(x, 0, 0);
        leftIs(x, 0, 1, 0);
        bestIs(x, 0, 0, 0);
        bestIs(x, 1, 0, 0);
        weigh(x, "99999999");
        leftIs(x, 5184, 0);
        leftIs(x, 81 + 63 * 72, 1);
    }

    private static void leftWhateverIsTrue() {
        about("LEFT is of all CASES, whichever is TRUE");
        AnswerShorter x = with(TWO_AND_NOT + "ph;");
        for (int c = 0; c < 8; c++) {
            x.truth(c);
            leftIs(x, 40, 0, 0, 0, 0);
            due("best(0, -1)", x.best(0, -1), 40);
        }
    }

    // ---- BEST

    private static void bestIsAsked() {
        about("BEST: of sayings of 1 .. 3 WORDS, though the saying without words would leave less");
        // By MORE it is answered in one word: {2,3,4,5,7} for five cases, {2,3,6} for 6, 0 and 1 silent.
        AnswerShorter x = with("t23457;t236;l3;ph;po;");
        leftIs(x, 5 * 5 + 3 + 2 * 8, 0);
        leftIs(x, 3 * 3 + 3 * 5 + 2 * 8, 1);
        // "0" is answered by "0 0" or, in 2 and 3, by "0 1", "1" by "1 1": as much for who hides.
        leftIs(x, 5 * 5 + 3 * 8, 0, 0);
        leftIs(x, 3 * 3 + 5 * 8, 0, 1);
        bestIs(x, 0, 49, 0);
        bestIs(x, 1, 2 * 2 + 3 * 5 + 3 * 8, 0);
    }

    private static void bestOfThreeWords() {
        about("BEST of 3 WORDS, though 4 would leave less");
        AnswerShorter x = with(TWO_AND_NOT + "ph;");
        leftIs(x, 39, 0, 0, 2, 1, 2);
        bestIs(x, 0, 40, 0, 0, 0);
    }

    private static void bestFirst() {
        about("BEST: of several the first");
        AnswerShorter x = with("i;t0;t0;l4;po;");
        // A question may be put in idle words: the answers to all CASES are the same as to {0}.
        leftIs(x, 57, 0, 0);
        leftIs(x, 57, 0, 1, 1);
        bestIs(x, 0, 57, 0);
        AnswerShorter last = with("t0;t01;l1;ph;w1,3;");
        // "0" is answered in 0 alone, "1" in 0 and 1.
        leftIs(last, 1 + 9 * 10, 0, 0);
        leftIs(last, 4 * 4 + 6 * 10, 0, 1);
        bestIs(last, 0, 76, 1);
    }

    private static void bestWithoutWords() {
        about("BEST: -9, no WORDS");
        AnswerShorter x = with("ph;l4;");
        for (int i = -1; i <= 4; i++) {
            due("best(0, " + i + ")", x.best(0, i), -9);
        }
        due("best(0, highest)", x.best(0, HIGHEST), -9);
        due("left(0)", x.left(0), 64);
        tell(x, "i;");
        bestIs(x, 0, 64, 0);
    }

    private static void bestByKindAndLaw() {
        about("BEST by each KIND under each LAW, of one tongue");
        String words = "t23457;t236;";
        AnswerShorter x = with(words + "ph;po;pb;pg;");
        // Asked in this order, what was found for one kind or law must not be taken for another.
        for (int law = 4; law >= 0; law--) {
            x.law(law);
            for (int p = 3; p >= 0; p--) {
                due("best(" + p + ", -1) by " + law, x.best(p, -1), lowestLeft(words, p, law));
            }
        }
        for (int law = 0; law <= 4; law++) {
            for (int p = 0; p <= 3; p++) {
                due("under(" + p + ", " + law + ")", x.under(p, law), lowestLeft(words, p, law));
            }
        }
        due("under(0, 3)", x.under(0, 3), 49);
        due("under(1, 3)", x.under(1, 3), 43);
    }

    /** The least LEFT of all questions that two words make, each asked of by itself. */
    private static int lowestLeft(String words, int person, int law) {
        AnswerShorter x = with(words + "ph;po;pb;pg;");
        x.law(law);
        int lowest = HIGHEST;
        // A code's bits behind its highest one are the question's words.
        for (int code = 2; code < 16; code++) {
            for (int bit = Integer.highestOneBit(code) >> 1; bit > 0; bit >>= 1) {
                x.row((code & bit) == 0 ? 0 : 1);
            }
            lowest = Math.min(lowest, x.left(person));
        }
        return lowest;
    }

    private static void bestAnew() {
        about("BEST is of the tongue as it is");
        AnswerShorter x = with("t23457;t236;l3;ph;po;");
        bestIs(x, 0, 49, 0);
        due("image()", x.image(), 2);
        weigh(x, "22222222");
        bestIs(x, 0, 4 * 49, 0);
        tell(x, "t6;");
        // In 6 "2 2" answers "0" now, as it would "2": 6 leaves one case, {2,3,4,5,7} five, 0 and 1 all.
        bestIs(x, 0, 4 * (25 + 1 + 16), 0);
        due("on()", x.on(), 2);
        bestIs(x, 0, 49, 0);
    }

    // ---- FORCE

    private static void forceByWeights() {
        about("FORCE: whatever CASE is TRUE (WEIGHT above 0)");
        AnswerShorter x = with("t0;");
        due("force(1, -1)", x.force(1, -1), -9);
        weigh(x, "10000000");
        forceIs(x, 1, 0, 0);
        forceIs(x, 0, 0, 0);
        forceIs(x, 255, 0, 0);
        weigh(x, "11000000");
        due("force(1, -1), 1 weighing", x.force(1, -1), -9);
        weigh(x, "00000000");
        forceIs(x, 0, 0);
        forceIs(x, 255, 0);
        forceIs(x, 77, 0);
        x.truth(5);
        weigh(x, "90000000");
        forceIs(x, 1, 0, 0);
    }

    private static void forceIsAsked() {
        about("FORCE: a question of 1 .. 3 WORDS, though the saying without words would force");
        // By MORE "" is answered by {2,3,4,5,7} or {2,3,6}; "0" by nobody in 6, "1" by nobody in 4.
        AnswerShorter x = with("t23457;t236;l3;ph;");
        weigh(x, "00111111");
        for (int i = -1; i <= 3; i++) {
            due("force(252, " + i + ")", x.force(252, i), -9);
        }
        weigh(x, "00110000");
        forceIs(x, 252, 0);
    }

    private static void forceOfThreeWords() {
        about("FORCE of 3 WORDS; -9, where four would do");
        AnswerShorter x = with(TWO_AND_NOT + "ph;");
        forceIs(x, 3, 0, 0, 0);
        for (int i = -1; i <= 3; i++) {
            due("force(2, " + i + ")", x.force(2, i), -9);
        }
        // "0 2 1 2" asks of {1}, which "0 2 1" answers.
        ask(x, 0, 2, 1, 2);
        for (int c = 0; c < 8; c++) {
            due("some answer, " + c + " being true", x.answers(c) > 0 ? 1 : 0, 1);
        }
    }

    private static void forceEachAnswer() {
        about("FORCE: each ANSWER has no CASE outside that SET or none in it");
        // To {0,1} "t01" is an answer beside "t0" and "t1", so that {0} and {1} are not told apart.
        AnswerShorter x = with("t0;t1;t01;n;l4;");
        forceIs(x, 3, 2);
        forceIs(x, 1, 0);
        forceIs(x, 2, 1);
        forceIs(x, 252, 2);
        forceIs(x, 254, 0);
        AnswerShorter y = with("t01;t0;l1;");
        weigh(y, "11000000");
        // "0" has both as answers, "1" none in 1.
        forceIs(y, 3, 0);
        due("force(1, -1)", y.force(1, -1), -9);
        due("force(2, -1)", y.force(2, -1), -9);
        weigh(y, "10000000");
        forceIs(y, 1, 1);
    }

    private static void forceWithoutWords() {
        about("FORCE without WORDS");
        AnswerShorter x = with("l4;ph;");
        due("force(255, -1)", x.force(255, -1), -9);
        due("force(0, 0)", x.force(0, 0), -9);
        weigh(x, "00000000");
        due("force(255, -1), none weighing", x.force(255, -1), -9);
        tell(x, "i;");
        forceIs(x, 255, 0);
    }

    // ---- MEANT and CHANCE

    private static void meantExactly() {
        about("MEANT: a PERSON's ANSWER would be that which is told");
        AnswerShorter x = with("t0;t1;t2;l3;pf;");
        for (int c = 0; c < 3; c++) {
            hear(x, c);
            meantIs(x, 1 << c, 0);
        }
        meantIs(x, 0, 0);
        ask(x, 0);
        hear(x, 0);
        meantIs(x, 0, 0);
        ask(x, 0);
        hear(x, 1, 1);
        meantIs(x, 2, 0);
        // A NOT that waits for nothing is told as the answer it is.
        AnswerShorter waiting = with("n;l3;pf;");
        hear(waiting, 0);
        meantIs(waiting, 255, 0);
        // As much, but not the first.
        AnswerShorter same = with("t0;t0;l3;pf;");
        hear(same, 0);
        meantIs(same, 1, 0);
        hear(same, 1);
        meantIs(same, 0, 0);
    }

    private static void meantByLength() {
        about("MEANT by a told answer of 0 .. 6 WORDS");
        AnswerShorter x = with("t0;t1;l3;pf;");
        ask(x, 0, 1);
        hear(x, 0, 0, 0);
        meantIs(x, 1, 0);
        ask(x, 0, 1);
        hear(x, 1, 1, 1);
        meantIs(x, 2, 0);
        ask(x, 0, 1);
        hear(x, 0, 0, 1);
        meantIs(x, 0, 0);
        for (int length = 4; length <= 6; length++) {
            ask(x, 0, 1);
            hear(x, new int[length]);
            meantIs(x, 0, 0);
        }
        AnswerShorter none = with("l4;ph;");
        meantIs(none, 255, 0);
    }

    private static void meantOfSilent() {
        about("MEANT of the silent: no CASES");
        AnswerShorter x = with("t0;ph;po;pb;pg;");
        for (int p = 0; p < 4; p++) {
            meantIs(x, 0, p);
            hear(x, 0);
            meantIs(x, 0, p);
            ask(x, 0, 0);
            meantIs(x, 0, p);
            ask(x, 0, 0);
            hear(x, 0);
            meantIs(x, 1, p);
        }
    }

    private static void chancesAre(AnswerShorter x, int... aboveAndBelow) {
        for (int c = 0; c < 8; c++) {
            chanceIs(x, c, aboveAndBelow[2 * c], aboveAndBelow[2 * c + 1]);
        }
    }

    private static void chanceWithout() {
        about("CHANCE (none yet: no CASES), (0 by 1)");
        AnswerShorter x = with("t0;pf;l3;w0,9;");
        chancesAre(x, 0, 1, 0, 1, 0, 1, 0, 1, 0, 1, 0, 1, 0, 1, 0, 1);
        due("MEANT is no CASES", x.meant(0), 0);
        chancesAre(x, 0, 1, 0, 1, 0, 1, 0, 1, 0, 1, 0, 1, 0, 1, 0, 1);
    }

    private static void chanceOutside() {
        about("CHANCE of a CASE in MEANT, and of those beside it");
        AnswerShorter x = with("t0;t1;t2;t3;t4;t5;t6;t7;l3;pf;");
        for (int c = 0; c < 8; c++) {
            hear(x, c);
            meantIs(x, 1 << c, 0);
            for (int other = 0; other < 8; other++) {
                chanceIs(x, other, other == c ? 1 : 0, 1);
            }
        }
    }

    private static void chanceWeights() {
        about("CHANCE: its WEIGHT by all WEIGHTS of these");
        AnswerShorter x = with("t012;t3;l3;pf;");
        hear(x, 0);
        meantIs(x, 7, 0);
        chancesAre(x, 1, 3, 1, 3, 1, 3, 0, 1, 0, 1, 0, 1, 0, 1, 0, 1);
        weigh(x, "0249");
        chancesAre(x, 0, 1, 1, 3, 2, 3, 0, 1, 0, 1, 0, 1, 0, 1, 0, 1);
        weigh(x, "0709");
        chancesAre(x, 0, 1, 1, 1, 0, 1, 0, 1, 0, 1, 0, 1, 0, 1, 0, 1);
        weigh(x, "0009");
        chancesAre(x, 0, 1, 0, 1, 0, 1, 0, 1, 0, 1, 0, 1, 0, 1, 0, 1);
    }

    private static void chanceLeastTerms() {
        about("CHANCE in least terms");
        AnswerShorter x = with("l4;ph;");
        meantIs(x, 255, 0);
        chancesAre(x, 1, 8, 1, 8, 1, 8, 1, 8, 1, 8, 1, 8, 1, 8, 1, 8);
        weigh(x, "99999999");
        chancesAre(x, 1, 8, 1, 8, 1, 8, 1, 8, 1, 8, 1, 8, 1, 8, 1, 8);
        weigh(x, "98999999");
        chancesAre(x, 9, 71, 8, 71, 9, 71, 9, 71, 9, 71, 9, 71, 9, 71, 9, 71);
        weigh(x, "12345678");
        chancesAre(x, 1, 36, 1, 18, 1, 12, 1, 9, 5, 36, 1, 6, 7, 36, 2, 9);
        weigh(x, "64200000");
        chancesAre(x, 1, 2, 1, 3, 1, 6, 0, 1, 0, 1, 0, 1, 0, 1, 0, 1);
    }

    // ---- IDLE WORTH and UNDER

    private static void idleWorth() {
        about("IDLE WORTH: LEFT of BEST, less what it would be with an IDLE WORD more");
        // With it BEST grows from 24 to 32: see PromiseTest. By weights of 2 all of it is four times that.
        AnswerShorter x = with("t012;t234;t456;t067;l3;ph;po;");
        due("best(0, -1)", x.best(0, -1), 24);
        due("idle(0)", x.idle(0), 24 - 32);
        tell(x, "i;");
        due("best(0, -1) with one", x.best(0, -1), 32);
        due("idle(0) with one", x.idle(0), 0);
        due("words", x.count(0), 5);
    }

    private static void idleAnew() {
        about("IDLE WORTH is of the tongue as it is");
        AnswerShorter x = with("t012;t234;t456;t067;l3;ph;");
        due("idle(0)", x.idle(0), -8);
        x.image();
        weigh(x, "22222222");
        due("idle(0)", x.idle(0), -32);
        weigh(x, "00000000");
        due("idle(0)", x.idle(0), 0);
        weigh(x, "33333333");
        due("idle(0)", x.idle(0), -72);
        due("on()", x.on(), 4);
        due("idle(0)", x.idle(0), -8);
        x.law(4);
        due("idle(0) by FREE", x.idle(0), 0);
        x.law(3);
        due("idle(0) by MORE", x.idle(0), -8);
    }

    private static void idleRooms() {
        about("IDLE WORTH with 1 .. 7 WORDS");
        AnswerShorter x = with("ph;l4;");
        due("idle(0) without words", x.idle(0), 1000000003);
        for (int words = 1; words <= 7; words++) {
            tell(x, "t0;");
            due("idle(0) with " + words, x.idle(0), 0);
            due("words", x.count(0), words);
        }
        tell(x, "t0;");
        due("idle(0) with 8", x.idle(0), 1000000003);
        due("idle(1) with 8", x.idle(1), 1000000001);
    }

    private static void under() {
        about("UNDER: LEFT of BEST under a LAW, whichever is the LAW");
        // By MORE 24 and by FREE 32 are left, see PromiseTest; by FEWER and BARE two words must answer.
        AnswerShorter x = with("t012;t234;t456;t067;ph;");
        for (int law = 0; law <= 4; law++) {
            x.law(law);
            due("under(0, 3) by " + law, x.under(0, 3), 24);
            due("under(0, 4) by " + law, x.under(0, 4), 32);
            due("best(0, -1) by " + law, x.best(0, -1), x.under(0, law));
            due("count(5)", x.count(5), law);
        }
        AnswerShorter bare = with("ph;");
        for (int law = 0; law <= 4; law++) {
            due("under(0, " + law + ") without words", bare.under(0, law), -9);
        }
        tell(bare, "t0;");
        for (int law = 0; law <= 4; law++) {
            // {0} asked of in two words is answered in one, two or three.
            due("under(0, " + law + ") with one word", bare.under(0, law), 1 + 7 * 8);
        }
    }

    // ---- LOTS

    /**
     * By FREE who hides answers a question of such words with all that it means: what is left lacks just
     * the words that were drawn. The cases weigh 1, 2, 4, 8, 9, 5, 3, and 7, in all answers, nothing.
     */
    private static AnswerShorter drawer() {
        AnswerShorter x = with(ALL_BUT_ONE);
        tell(x, "ph;l4;");
        weigh(x, "12489530");
        x.truth(7);
        return x;
    }

    private static int without(int... words) {
        int[] weights = {1, 2, 4, 8, 9, 5, 3};
        boolean[] drawn = new boolean[8];
        int left = 32;
        for (int w : words) {
            if (w < 7 && !drawn[w]) {
                left -= weights[w];
                drawn[w] = true;
            }
        }
        return left;
    }

    private static void lotsDraws() {
        about("LOTS: a DRAW below 3 and 1 how many, then WORDS by DRAWS below WORDS");
        AnswerShorter x = drawer();
        due("lots(0, 1, 1), one word", x.lots(0, 1, 1), without(4));
        due("lots(0, 1, 4), one word", x.lots(0, 1, 4), without(3));
        due("lots(0, 1, 2), two words", x.lots(0, 1, 2), without(3, 5));
        due("lots(0, 1, 5), two words", x.lots(0, 1, 5), without(2, 0));
        due("lots(0, 1, 6), three words", x.lots(0, 1, 6), without(1, 5, 6));
        due("lots(0, 1, 9), three words", x.lots(0, 1, 9), without(0, 1, 5));
        due("lots(0, 1, 1000), one word twice", x.lots(0, 1, 1000), without(0, 0));
        // The eighth word is idle.
        tell(x, "i;");
        due("lots(0, 1, 1) below 8", x.lots(0, 1, 1), without(5));
        due("lots(0, 1, 10) below 8", x.lots(0, 1, 10), without(7));
        due("lots(0, 1, 3) below 8", x.lots(0, 1, 3), without(7, 6, 1));
        AnswerShorter one = with("t1234567;ph;l4;");
        one.truth(7);
        due("lots(0, 30, 5) below 1", one.lots(0, 30, 5), 7);
    }

    private static void lotsSeeds() {
        about("LOTS: z an int, without its sign's bit");
        AnswerShorter x = drawer();
        due("lots(0, 1, 0)", x.lots(0, 1, 0), without(6, 6, 1));
        due("lots(0, 1, lowest)", x.lots(0, 1, LOWEST), without(6, 6, 1));
        due("lots(0, 1, -1)", x.lots(0, 1, -1), without(0, 2));
        due("lots(0, 1, highest)", x.lots(0, 1, HIGHEST), without(0, 2));
        due("lots(0, 1, -2)", x.lots(0, 1, -2), without(1));
        due("lots(0, 1, -3)", x.lots(0, 1, -3), without(3, 4, 5));
        due("lots(0, 1, -1000)", x.lots(0, 1, -1000), without(5));
        due("lots(0, 1, 123456789)", x.lots(0, 1, 123456789), without(5, 6));
        due("the same seed", x.lots(0, 1, -1000), without(5));
    }

    private static void lotsMany() {
        about("LOTS: n questions (1 .. 30), met one by one");
        AnswerShorter x = drawer();
        due("lots(0, 1, 1)", x.lots(0, 1, 1), without(4));
        due("lots(0, 2, 1)", x.lots(0, 2, 1), without(4, 6));
        due("lots(0, 3, 1)", x.lots(0, 3, 1), without(4, 6, 2, 5));
        due("lots(0, 2, 12)", x.lots(0, 2, 12), without(3, 6, 1, 6));
        due("lots(0, 3, 12)", x.lots(0, 3, 12), without(3, 6, 1, 6, 0, 4, 0));
        due("lots(0, 30, 1)", x.lots(0, 30, 1), 0);
        due("lots(0, 31, 1)", x.lots(0, 31, 1), -6);
        due("lots(0, 0, 1)", x.lots(0, 0, 1), -4);
    }

    private static void lotsAnswers() {
        about("LOTS: the ANSWER of a PERSON, the TRUE one being as it is; all CASES, if silent");
        AnswerShorter x = drawer();
        // By MORE a question of three words stays without an answer.
        x.law(3);
        due("lots(0, 1, 6), three words", x.lots(0, 1, 6), 32);
        due("lots(0, 1, 2), two words", x.lots(0, 1, 2), without(3, 5));
        due("lots(0, 2, 7), one word and three", x.lots(0, 2, 7), without(6));
        // Of 4 nothing can be said that is in no case of "all but 4".
        x.law(4);
        x.truth(4);
        due("lots(0, 1, 1), what is true drawn", x.lots(0, 1, 1), 32);
        due("lots(0, 1, 4), another drawn", x.lots(0, 1, 4), without(3));
        due("lots(0, 2, 1), both", x.lots(0, 2, 1), without(6));
        // By FEWER one word must do where two, not alike, were drawn.
        x.law(0);
        x.truth(7);
        due("lots(0, 1, 2), two words", x.lots(0, 1, 2), 32);
        due("lots(0, 1, 1000), one word twice", x.lots(0, 1, 1000), without(0));
        due("lots(0, 1, 1), one word", x.lots(0, 1, 1), 32);
        due("the TRUE CASE", x.count(6), 7);
        due("the LAW", x.count(5), 0);
        due("sayings", x.count(2), 0);
    }
}
