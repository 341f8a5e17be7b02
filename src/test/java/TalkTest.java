import java.util.function.ToIntFunction;

/** THE ROW, the told answer, the TALK, its length, THE IMAGE, what is counted: boundaries, each by itself. */
public final class TalkTest extends Calls {
    public static void main(String[] args) {
        newObject();
        rowOfSix();
        toldOfSix();
        rowStays();
        rowHasNone();
        firstMayBeAny();
        furtherMayFollow();
        lawOfTheMoment();
        idleOnesNotCounted();
        twelveSayings();
        sayingsAre();
        knownByPlace();
        knownNone();
        silenceEnds();
        longestByLaw();
        lastByLaw();
        lengthsAlone();
        imageNone();
        imageOfNothing();
        imageHolds();
        imageAgain();
        onTakesTheRow();
        onLeavesRefusals();
        counts();
        callsToTheEnd();
        finish("TalkTest");
    }

    // ---- a new object

    private static void newObject() {
        about("No WORDS, nobody");
        AnswerShorter x = new AnswerShorter();
        int[] counts = {0, 0, 0, 0, 0, 0, 0, 8, 0};
        for (int what = 0; what < counts.length; what++) {
            due("count(" + what + ")", x.count(what), counts[what]);
        }
        due("word(0, 0)", x.word(0, 0), -1);
        due("row(0)", x.row(0), -1);
        due("told(0)", x.told(0), -1);
        due("answer(0, -1)", x.answer(0, -1), -1);
        due("meant(0)", x.meant(0), -1);
        due("idle(0)", x.idle(0), 1000000001);
        due("on()", x.on(), -3);
        due("silence()", x.silence(), 0);
        due("known()", x.known(), 255);
        due("means()", x.means(), 255);
        due("say()", x.say(), 1);
    }

    // ---- THE ROW and the told answer

    private static void rowOfSix() {
        about("THE ROW of WORDS (6 at most)");
        AnswerShorter x = with("t0;i;");
        ask(x, 1, 1, 1, 1, 1, 0);
        due("row(1) with 6", x.row(1), -6);
        due("row(1) with 6", x.row(1), -6);
        due("count(3)", x.count(3), 6);
        due("means()", x.means(), 1);
        due("row(1)", x.row(1), 1);
        AnswerShorter eight = with("t0;t1;t2;t3;t4;t5;t6;t7;");
        for (int w = 0; w < 8; w++) {
            meansOf(eight, 1 << w, w);
        }
        due("row(8)", eight.row(8), -1);
    }

    private static void toldOfSix() {
        about("the told answer of WORDS (6 at most)");
        AnswerShorter x = with("t0;i;ph;l4;");
        hear(x, 0, 1, 0, 1, 0, 1);
        due("told(0) with 6", x.told(0), -6);
        due("told(1) with 6", x.told(1), -6);
        due("count(8)", x.count(8), 6);
        due("count(3)", x.count(3), 0);
        meantIs(x, 0, 0);
        hear(x, 0);
        due("count(8)", x.count(8), 1);
        AnswerShorter eight = with("t0;t1;t2;t3;t4;t5;t6;t7;");
        hear(eight, 7);
        due("told(8)", eight.told(8), -1);
    }

    /** An object with {0,1} asked of in three words, "0" told. */
    private static AnswerShorter asked() {
        AnswerShorter x = with(TWO_AND_NOT + "ph;");
        ask(x, 0, 0, 0);
        hear(x, 0);
        return x;
    }

    private static void stays(String call, ToIntFunction<AnswerShorter> made) {
        AnswerShorter x = asked();
        made.applyAsInt(x);
        due("THE ROW behind " + call, x.count(3), 3);
        due("the told answer behind " + call, x.count(8), 1);
        due("meant(0) behind " + call, x.meant(0), 3);
    }

    private static void rowStays() {
        about("by calls that ask of it or do not look at it THE ROW stays");
        stays("letter", x -> x.letter('n'));
        stays("tongue", x -> tell(x, "t7;"));
        stays("tongue with a fault", x -> tell(x, "x"));
        stays("word", x -> x.word(0, 0));
        stays("weight", x -> x.weight(0));
        stays("truth", x -> x.truth(7));
        stays("law", x -> x.law(0));
        stays("answer", x -> x.answer(0, 0));
        stays("answers", x -> x.answers(0));
        stays("least", x -> x.least(0, 0));
        stays("best", x -> x.best(0, 0));
        stays("force", x -> x.force(3, 0));
        stays("chance", x -> x.chance(0, 0));
        stays("saying", x -> x.saying(0, 0));
        stays("known", AnswerShorter::known);
        stays("silence", AnswerShorter::silence);
        stays("longest", x -> x.longest(6));
        stays("last", x -> x.last(6));
        stays("idle", x -> x.idle(0));
        stays("under", x -> x.under(0, 4));
        stays("lots", x -> x.lots(0, 30, 1));
        stays("image", AnswerShorter::image);
        stays("count", x -> x.count(3));
    }

    private static void taken(String call, int answer, int heard, ToIntFunction<AnswerShorter> made) {
        AnswerShorter x = asked();
        due(call, made.applyAsInt(x), answer);
        due("THE ROW behind " + call, x.count(3), 0);
        due("the told answer behind " + call, x.count(8), heard);
        due("means() of no words behind " + call, x.means(), 255);
    }

    private static void rowHasNone() {
        about("it is the saying, and has none then");
        taken("means()", 3, 1, AnswerShorter::means);
        taken("follows(4, 0)", 1, 1, x -> x.follows(4, 0));
        taken("follows(3, 0)", 0, 1, x -> x.follows(3, 0));
        taken("settles(7)", 1, 1, x -> x.settles(7));
        taken("settles(1)", 0, 1, x -> x.settles(1));
        taken("left(0)", 40, 1, x -> x.left(0));
        taken("meant(0)", 3, 0, x -> x.meant(0));
        taken("say()", 1, 1, AnswerShorter::say);
    }

    // ---- a TALK

    private static void firstMayBeAny() {
        about("the first may be any");
        for (int law = 0; law <= 4; law++) {
            for (int n = 0; n <= 6; n++) {
                AnswerShorter x = with("t0;l" + law + ";");
                said(x, 1, new int[n]);
                due("saying(0, 0)", x.saying(0, 0), n);
                due("silence()", x.silence(), 1);
                said(x, 1, new int[n]);
            }
        }
    }

    private static void furtherMayFollow() {
        about("each further one MAY follow the one ahead by the LAW");
        for (int law = 0; law <= 4; law++) {
            for (int ahead = 0; ahead <= 6; ahead++) {
                for (int n = 0; n <= 6; n++) {
                    boolean may = law == 4 || law == 3 && n - ahead == 1 || law == 1 && n <= ahead
                        || law != 1 && law != 3 && n < ahead;
                    AnswerShorter x = with("t0;l" + law + ";");
                    said(x, 1, new int[ahead]);
                    said(x, may ? 2 : -3, new int[n]);
                    due("THE ROW of " + n, x.count(3), may ? 0 : n);
                    due("sayings", x.count(2), may ? 2 : 1);
                    due("count(13)", x.count(13), may ? 0 : 1);
                }
            }
        }
    }

    private static void lawOfTheMoment() {
        about("the LAW is that of the moment, the one ahead the latest");
        AnswerShorter x = with("t0;");
        said(x, 1, 0, 0, 0);
        said(x, 2, 0);
        ask(x, 0, 0);
        due("two words behind one by FEWER", x.say(), -3);
        x.law(3);
        due("two words behind one by MORE", x.say(), 3);
        ask(x, 0, 0);
        due("two words behind two by MORE", x.say(), -3);
        x.law(1);
        due("two words behind two by SAME", x.say(), 4);
        ask(x, 0, 0, 0);
        due("three words behind two by SAME", x.say(), -3);
        x.law(4);
        due("three words behind two by FREE", x.say(), 5);
        x.law(0);
        said(x, 6);
        due("none behind none by FEWER", x.say(), -3);
    }

    private static void idleOnesNotCounted() {
        about("BARE: fewer, IDLE ones not counted in either");
        AnswerShorter x = with("t0;i;l2;");
        said(x, 1, 0, 0, 1);
        ask(x, 0, 0);
        due("two bare ones behind two", x.say(), -3);
        x.means();
        said(x, 2, 1, 0, 1, 1, 1, 1);
        ask(x, 0);
        due("one bare one behind one", x.say(), -3);
        x.means();
        said(x, 3, 1, 1, 1, 1, 1, 1);
        ask(x, 1);
        due("no bare one behind none", x.say(), -3);
        x.means();
        due("nothing said behind no bare one", x.say(), -3);
        due("sayings", x.count(2), 3);
    }

    private static void twelveSayings() {
        about("say(): -6 12");
        AnswerShorter x = with("t0;l4;");
        for (int times = 0; times < 2; times++) {
            for (int k = 1; k <= 12; k++) {
                said(x, k, 0);
            }
            ask(x, 0);
            due("a thirteenth", x.say(), -6);
            due("THE ROW", x.count(3), 1);
            x.law(0);
            due("a thirteenth that may not follow", x.say(), -3);
            x.means();
            due("a thirteenth that may follow", x.say(), -6);
            x.law(4);
            due("sayings", x.count(2), 12);
            due("saying(11, 0)", x.saying(11, 0), 1);
            due("saying(12, 0)", x.saying(12, 0), -1);
            due("silence()", x.silence(), 12);
            due("saying(0, 0)", x.saying(0, 0), -1);
        }
        due("count(16)", x.count(16), 4);
        due("count(13)", x.count(13), 2);
    }

    private static void sayingsAre() {
        about("Of the TALK's i-th saying: how many WORDS, what it MEANS, how many IDLE ones");
        AnswerShorter x = with("t0;i;n;t012;l4;");
        int[][] rows = {{}, {0}, {1, 1, 1, 1, 1, 1}, {2, 0, 1}, {3, 2, 0}, {0, 2, 0}, {2, 1, 2}};
        int[][] want = {{0, 255, 0}, {1, 1, 0}, {6, 255, 6}, {3, 254, 1}, {3, 6, 0}, {3, 0, 0}, {3, 255, 1}};
        for (int i = 0; i < rows.length; i++) {
            said(x, i + 1, rows[i]);
        }
        tell(x, "n;t7;");
        for (int i = 0; i < rows.length; i++) {
            for (int what = 0; what <= 2; what++) {
                due("saying(" + i + ", " + what + ")", x.saying(i, what), want[i][what]);
            }
        }
        due("saying(7, 0)", x.saying(rows.length, 0), -1);
    }

    private static void knownByPlace() {
        about("KNOWN: its sayings 1, 3, 5 are answers; 0, 2, 4 are questions");
        for (int place = 0; place < 12; place++) {
            AnswerShorter x = with("t0;l4;");
            for (int k = 0; k < 12; k++) {
                said(x, k + 1, new int[k == place ? 1 : 0]);
                boolean answered = k >= place && place % 2 == 1;
                due("known() of " + (k + 1) + ", {0} at " + place, x.known(), answered ? 1 : 255);
            }
        }
    }

    private static void knownNone() {
        about("KNOWN without answers, and where they leave no CASE");
        AnswerShorter x = with("t01;t12;t23;l4;");
        due("known() of no sayings", x.known(), 255);
        said(x, 1, 0);
        due("known() of a question", x.known(), 255);
        said(x, 2, 0);
        due("known() of an answer", x.known(), 3);
        said(x, 3);
        said(x, 4, 1);
        due("known() of two answers", x.known(), 2);
        said(x, 5);
        said(x, 6, 2);
        due("known() of answers that do not go together", x.known(), 0);
        due("silence()", x.silence(), 6);
        due("known() behind silence", x.known(), 255);
    }

    private static void silenceEnds() {
        about("The TALK has none: how many sayings it had");
        AnswerShorter x = with("t0;l3;");
        due("silence() without any", x.silence(), 0);
        said(x, 1, 0);
        due("silence()", x.silence(), 1);
        due("silence() once more", x.silence(), 0);
        due("count(2)", x.count(2), 0);
        // Nothing is ahead now, so that no law holds.
        said(x, 1, 0);
        said(x, 2, 0, 0);
        due("silence()", x.silence(), 2);
    }

    private static void longestByLaw() {
        about("LONGEST of 1 .. 6 WORDS; -9 without end");
        int[][] want = {{1, 2, 3, 4, 5, 6}, {-9, -9, -9, -9, -9, -9}, {1, 2, 3, 4, 5, 6}, {6, 5, 4, 3, 2, 1},
            {-9, -9, -9, -9, -9, -9}};
        forAllLengths(want, AnswerShorter::longest);
    }

    private static void lastByLaw() {
        about("LAST: 1, 0; -9 where LONGEST is without end");
        // By FEWER one word can be said behind all but one word, so that only who says one speaks last.
        int[][] want = {{1, 0, 0, 0, 0, 0}, {-9, -9, -9, -9, -9, -9}, {1, 0, 0, 0, 0, 0}, {0, 1, 0, 1, 0, 1},
            {-9, -9, -9, -9, -9, -9}};
        forAllLengths(want, AnswerShorter::last);
    }

    private interface OfLength {
        int in(AnswerShorter x, int n);
    }

    private static void forAllLengths(int[][] want, OfLength call) {
        for (int law = 0; law <= 4; law++) {
            AnswerShorter x = with("l" + law + ";");
            for (int n = 1; n <= 6; n++) {
                due("of " + n + " by " + law, call.in(x, n), want[law][n - 1]);
            }
            due("of 0", call.in(x, 0), -4);
            due("of lowest", call.in(x, LOWEST), -4);
            due("of 7", call.in(x, 7), -6);
            due("of highest", call.in(x, HIGHEST), -6);
            due("count(14)", x.count(14), 2);
            due("count(16)", x.count(16), 2);
        }
    }

    private static void lengthsAlone() {
        about("LONGEST and LAST, none IDLE, whatever WORDS there are and whatever was said");
        for (String words : new String[] {"", "t0;", "i;i;i;", "n;o;i;t7;"}) {
            AnswerShorter x = with(words + "l4;");
            said(x, 1);
            said(x, 2);
            x.law(2);
            due("longest(6) by BARE", x.longest(6), 6);
            due("last(6) by BARE", x.last(6), 0);
            due("last(1) by BARE", x.last(1), 1);
            x.law(3);
            due("longest(1) by MORE", x.longest(1), 6);
            due("last(5) by MORE", x.last(5), 0);
            due("sayings", x.count(2), 2);
        }
    }

    // ---- THE IMAGE

    private static void imageNone() {
        about("on(): -3 there is none");
        AnswerShorter x = with("t0;ph;l4;");
        x.truth(4);
        said(x, 1, 0);
        ask(x, 0, 0);
        hear(x, 0);
        due("on()", x.on(), -3);
        due("on() once more", x.on(), -3);
        int[] counts = {1, 1, 1, 2, 0, 4, 4, 8, 1};
        for (int what = 0; what < counts.length; what++) {
            due("count(" + what + ")", x.count(what), counts[what]);
        }
        due("count(13)", x.count(13), 2);
        due("image()", x.image(), 1);
        due("on() from it", x.on(), 1);
        due("count(13)", x.count(13), 2);
    }

    private static void imageOfNothing() {
        about("THE IMAGE of a new object");
        AnswerShorter x = new AnswerShorter();
        due("image()", x.image(), 0);
        tell(x, "t0;n;ph;l4;w0,9;");
        x.truth(7);
        said(x, 1, 0);
        said(x, 2, 1);
        due("meant(0)", x.meant(0), 255);
        due("on()", x.on(), 0);
        int[] counts = {0, 0, 0, 0, 0, 0, 0, 8, 0};
        for (int what = 0; what < counts.length; what++) {
            due("count(" + what + ")", x.count(what), counts[what]);
        }
        chanceIs(x, 0, 0, 1);
        due("row(0)", x.row(0), -1);
        due("left(0)", x.left(0), -1);
        due("least(1, -1)", x.least(1, -1), -9);
        due("saying(0, 0)", x.saying(0, 0), -1);
    }

    private static void asItWas(AnswerShorter x) {
        int[] counts = {2, 1, 2, 0, 0, 3, 6, 10, 0};
        for (int what = 0; what < counts.length; what++) {
            due("count(" + what + ")", x.count(what), counts[what]);
        }
        due("word(0, 1)", x.word(0, 1), 3);
        due("word(1, 0)", x.word(1, 0), 1);
        due("weight(2)", x.weight(2), 3);
        due("saying(0, 0)", x.saying(0, 0), 1);
        due("saying(1, 1)", x.saying(1, 1), 252);
        due("saying(1, 2)", x.saying(1, 2), 0);
        due("known()", x.known(), 252);
        // MEANT was {0,1}.
        chanceIs(x, 0, 1, 2);
        chanceIs(x, 2, 0, 1);
        ask(x, 0);
        // By MORE two words answer: "0 0" in {0,1}, "1 0" elsewhere.
        answerIs(x, 0, 1, 0);
        leftIs(x, 2 * 2 + 8 * 8, 0);
        leastIs(x, 252, 1, 0);
        due("least(128, -1)", x.least(128, -1), -9);
    }

    private static AnswerShorter before() {
        AnswerShorter x = with("t01;n;ph;l3;w2,3;");
        x.truth(6);
        said(x, 1, 0);
        said(x, 2, 1, 0);
        ask(x, 0);
        hear(x, 0, 0);
        meantIs(x, 3, 0);
        return x;
    }

    private static void imageHolds() {
        about("ON from it all is as then");
        AnswerShorter x = before();
        asItWas(x);
        due("image()", x.image(), 2);
        for (int times = 0; times < 2; times++) {
            tell(x, "t7;i;pf;w2,0;w7,9;l4;");
            x.truth(1);
            due("silence()", x.silence(), 2);
            said(x, 1, 2);
            said(x, 2, 3);
            said(x, 3, 2);
            meantIs(x, 255, 0);
            ask(x, 3, 2);
            hear(x, 3);
            due("best(0, 0)", x.best(0, 0), 1);
            due("idle(1)", x.idle(1), 0);
            due("least(128, -1)", x.least(128, -1), 1);
            due("on()", x.on(), 2);
            asItWas(x);
            due("row(2)", x.row(2), -1);
            due("told(2)", x.told(2), -1);
            due("left(1)", x.left(1), -1);
            due("saying(2, 0)", x.saying(2, 0), -1);
        }
    }

    private static void imageAgain() {
        about("THE IMAGE is taken anew");
        AnswerShorter x = before();
        due("image()", x.image(), 2);
        tell(x, "t7;w7,5;");
        due("image() once more", x.image(), 3);
        tell(x, "i;i;");
        due("on()", x.on(), 3);
        due("weight(7)", x.weight(7), 5);
        due("word(2, 1)", x.word(2, 1), 128);
        due("word(3, 0)", x.word(3, 0), -1);
        tell(x, "w7,0;");
        due("on() once more", x.on(), 3);
        due("weight(7)", x.weight(7), 5);
        due("image() of what is as then", x.image(), 3);
        due("on()", x.on(), 3);
        due("weight(7)", x.weight(7), 5);
    }

    private static void onTakesTheRow() {
        about("THE ROW, the told answer have none");
        AnswerShorter x = with("t0;ph;l4;");
        ask(x, 0, 0);
        hear(x, 0);
        due("image()", x.image(), 1);
        due("count(3)", x.count(3), 2);
        due("count(8)", x.count(8), 1);
        due("on()", x.on(), 1);
        due("count(3)", x.count(3), 0);
        due("count(8)", x.count(8), 0);
        due("means()", x.means(), 255);
        meantIs(x, 255, 0);
        ask(x, 0, 0, 0, 0, 0, 0);
        hear(x, 0, 0, 0, 0, 0, 0);
        due("on()", x.on(), 1);
        due("row(0)", x.row(0), 1);
        due("told(0)", x.told(0), 1);
    }

    private static void onLeavesRefusals() {
        about("how many REFUSALS there were is not told, so ON leaves it");
        AnswerShorter x = with("t0;");
        x.weight(8);
        x.image();
        x.weight(8);
        x.law(5);
        due("on()", x.on(), 1);
        due("count(11)", x.count(11), 2);
        due("count(12)", x.count(12), 1);
    }

    // ---- what is counted

    private static void counts() {
        about("count(): -9 for another what");
        AnswerShorter x = with("t0;");
        for (int what = -20; what <= 40; what++) {
            boolean told = what >= 0 && what <= 8 || what >= 11 && what <= 16;
            due("count(" + what + ") is told", x.count(what) == -9 ? 0 : 1, told ? 1 : 0);
        }
        due("count(lowest)", x.count(LOWEST), -9);
        due("count(highest)", x.count(HIGHEST), -9);
        for (int k = 1; k <= 20; k++) {
            x.weight(8);
            due("count(11)", x.count(11), k);
        }
        for (int what = 12; what <= 16; what++) {
            due("count(" + what + ")", x.count(what), 0);
        }
    }

    private static void callsToTheEnd() {
        about("at most 512 calls");
        AnswerShorter x = new AnswerShorter();
        int calls = 0;
        for (; calls < 510; calls += 2) {
            due("law(4)", x.law(4), calls == 0 ? 0 : 3);
            due("law(3)", x.law(3), 4);
        }
        due("weight(8), call 511", x.weight(8), -1);
        due("count(11), call 512", x.count(11), 1);
        String text = "t012;t234;t456;t067;n;o;i;ph;po;pb;pg;l3;";
        AnswerShorter busy = with(text);
        for (calls = text.length() + 1; calls + 17 <= 512; calls += 17) {
            for (char c : "w0,9;w0,1;".toCharArray()) {
                busy.letter(c);
            }
            busy.tongue();
            for (int p = 0; p < 4; p++) {
                // An idle word is there already, so that another lets nothing more be said.
                due("idle(" + p + ")", busy.idle(p), 0);
            }
            due("force(255, -1)", busy.force(255, -1), 1);
            due("lots(0, 30, 1)", busy.lots(0, 30, 1) >= 0 ? 1 : 0, 1);
        }
    }
}
