/** The document's "Terms": each of its sentences that names a boundary, by itself. */
public final class TermsTest extends Calls {
    private static final String FULL_WORDS = "n;n;n;n;n;n;n;n;";
    private static final String FULL_PERSONS = "ph;ph;ph;ph;";

    public static void main(String[] args) {
        cases();
        weights();
        sixtyFourLetters();
        telling();
        risingCases();
        weightStatements();
        lawStatements();
        personStatements();
        heads();
        everySign();
        somethingLacks();
        kindOneFirst();
        kindTwoPlace();
        wordRoom();
        personRoom();
        allOrNothing();
        noWords();
        sixWords();
        idleWords();
        nots();
        ors();
        noneFollows();
        leadingOr();
        laws();
        settles();
        emptySettlesNothing();
        answersFollow();
        answersWithIdleOnes();
        answerLengths();
        answerOrder();
        answersHoldTheCase();
        answersAnew();
        talkersByWeight();
        talkersByWords();
        talkersOfEquals();
        talkersSilent();
        finish("TermsTest");
    }

    private static AnswerShorter made(String... texts) {
        AnswerShorter x = new AnswerShorter();
        for (String text : texts) {
            tell(x, text);
        }
        return x;
    }

    // ---- CASES, WEIGHTS, a TONGUE

    private static void cases() {
        about("CASES 0 .. 7, one of which is TRUE (told; 0 at first)");
        AnswerShorter x = new AnswerShorter();
        due("count(6)", x.count(6), 0);
        int before = 0;
        for (int c = 7; c >= 0; c--) {
            due("truth(" + c + ")", x.truth(c), before);
            due("count(6)", x.count(6), c);
            before = c;
        }
        due("truth(8)", x.truth(8), -1);
        due("truth(-1)", x.truth(-1), -1);
        due("count(6) behind refusals", x.count(6), 0);
        tell(x, "n;");
        due("count(6) behind a tongue", x.count(6), 0);
    }

    private static void weights() {
        about("WEIGHTS (0 .. 9; 1 at first)");
        AnswerShorter x = new AnswerShorter();
        due("all of them", x.count(7), 8);
        tell(x, "w0,0;w1,0;w2,0;w3,0;w4,0;w5,0;w6,0;w7,0;");
        due("all of them, the least", x.count(7), 0);
        tell(x, "w0,9;w1,9;w2,9;w3,9;w4,9;w5,9;w6,9;w7,9;");
        due("all of them, the greatest", x.count(7), 72);
        due("told twice", tell(x, "w4,3;w4,2;"), 2);
        due("weight(4)", x.weight(4), 2);
        due("all of them", x.count(7), 65);
    }

    private static void sixtyFourLetters() {
        about("in letters, one by one (64 at most)");
        String text = "w0,0;w0,1;w0,2;w0,3;w0,4;w0,5;w0,6;w0,7;w0,8;w0,9;w1,2;w1,3;n;o;";
        AnswerShorter x = new AnswerShorter();
        for (int times = 1; times <= 3; times++) {
            letters(x, text);
            due("count(4)", x.count(4), 64);
            due("the letter behind 64", x.letter(';'), -6);
            due("count(4)", x.count(4), 64);
            due("tongue() of 64", x.tongue(), 14);
            due("count(4)", x.count(4), 0);
            due("words", x.count(0), 2 * times);
        }
        due("weight(0)", x.weight(0), 9);
        letters(x, text.substring(0, 63));
        due("tongue() of 63 that lack the last", x.tongue(), -1063);
        letters(x, text.substring(0, 62) + "w0");
        due("tongue() of 64 that lack more", x.tongue(), -1064);
    }

    private static void telling() {
        about("\"t\" digits (1 .. 8 of them)");
        AnswerShorter x = new AnswerShorter();
        due("no digit", tell(x, "t;"), -1001);
        due("no digit, more behind", tell(x, "n;t;n;"), -1003);
        int cases = 0;
        for (int many = 1; many <= 8; many++) {
            cases = cases * 2 + 1;
            due(many + " digits", tell(x, "t" + "01234567".substring(0, many) + ";"), 1);
            due("word(" + (many - 1) + ", 1)", x.word(many - 1, 1), cases);
        }
        due("a ninth digit", tell(x, "t012345677;"), -1009);
        due("a ninth digit, each the same", tell(x, "t000000000;"), -1009);
        due("a ninth digit behind others", tell(x, "w0,1;t123456789;"), -1014);
        due("a tenth digit", tell(x, "t0123456789;"), -1009);
        due("eight digits, each the same", tell(new AnswerShorter(), "t00000000;"), -2000);
        due("eight digits, one out of range", tell(new AnswerShorter(), "t12345678;"), -2000);
        due("eight digits that lack the end", tell(x, "t01234567"), -1009);
    }

    private static void risingCases() {
        about("CASES, each greater than the one ahead");
        for (int a = 0; a <= 9; a++) {
            AnswerShorter x = new AnswerShorter();
            due("t" + a, tell(x, "t" + a + ";"), a <= 7 ? 1 : -2000);
            due("word(0, 1)", x.word(0, 1), a <= 7 ? 1 << a : -1);
            for (int b = 0; b <= 9; b++) {
                boolean fits = a < b && b <= 7;
                AnswerShorter y = new AnswerShorter();
                due("t" + a + b, tell(y, "t" + a + b + ";"), fits ? 1 : -2000);
                due("word(0, 1)", y.word(0, 1), fits ? 1 << a | 1 << b : -1);
            }
        }
        due("the last not rising", tell(new AnswerShorter(), "t0123455;"), -2000);
        due("the last falling", tell(new AnswerShorter(), "t1234560;"), -2000);
    }

    private static void weightStatements() {
        about("\"w\" a CASE (a digit) \",\" WEIGHT (a digit)");
        for (int c = 0; c <= 9; c++) {
            for (int w = 0; w <= 9; w++) {
                AnswerShorter x = new AnswerShorter();
                due("w" + c + "," + w, tell(x, "w" + c + "," + w + ";"), c <= 7 ? 1 : -2000);
                due("all WEIGHTS", x.count(7), c <= 7 ? 7 + w : 8);
                due("weight(" + c + ")", x.weight(c), c <= 7 ? w : -1);
            }
        }
        AnswerShorter x = new AnswerShorter();
        due("two digits for a CASE", tell(x, "w00,1;"), -1002);
        due("two digits for a WEIGHT", tell(x, "w0,10;"), -1004);
        due("no CASE", tell(x, "w,1;"), -1001);
        due("no WEIGHT", tell(x, "w0,;"), -1003);
        due("no WEIGHT at all", tell(x, "w0;"), -1002);
    }

    private static void lawStatements() {
        about("\"l\" LAW (a digit, 0 .. 4)");
        for (int v = 0; v <= 9; v++) {
            AnswerShorter x = made("l3;");
            due("l" + v, tell(x, "l" + v + ";"), v <= 4 ? 1 : -2000);
            due("count(5)", x.count(5), v <= 4 ? v : 3);
        }
        due("two digits", tell(new AnswerShorter(), "l01;"), -1002);
        due("no digit", tell(new AnswerShorter(), "l;"), -1001);
    }

    private static void personStatements() {
        about("\"p\" a letter of a KIND");
        for (int sign = 0; sign <= 255; sign++) {
            AnswerShorter x = new AnswerShorter();
            x.letter('p');
            x.letter(sign);
            x.letter(';');
            boolean kind = sign == 'h' || sign == 'o' || sign == 'b' || sign == 'g' || sign == 'f';
            due("p and the sign " + sign, x.tongue(), kind ? 1 : -1001);
            due("persons", x.count(1), kind ? 1 : 0);
        }
        due("two letters", tell(new AnswerShorter(), "pho;"), -1002);
        due("no letter", tell(new AnswerShorter(), "p;"), -1001);
    }

    private static void heads() {
        about("the first letter of a STATEMENT");
        for (int sign = 0; sign <= 255; sign++) {
            boolean head = "tnoiwlp".indexOf(sign) >= 0;
            AnswerShorter x = new AnswerShorter();
            x.letter(sign);
            due("the sign " + sign, x.tongue(), head ? -1001 : -1000);
            letters(x, "n;");
            x.letter(sign);
            due("the sign " + sign + " behind another", x.tongue(), head ? -1003 : -1002);
        }
    }

    /** Puts every sign at every place but the first of each STATEMENT. */
    private static void everySign() {
        about("the place of the first letter with which no TONGUE can go on");
        String digits = "0123456789";
        String[][] forms = {
            {"t3;", digits, ";" + digits},
            {"n;", ";"}, {"o;", ";"}, {"i;", ";"},
            {"w1,2;", digits, ",", digits, ";"},
            {"l3;", digits, ";"},
            {"ph;", "hobgf", ";"}};
        for (String[] form : forms) {
            for (int place = 1; place < form.length; place++) {
                for (int sign = 0; sign <= 255; sign++) {
                    if (form[place].indexOf(sign) < 0) {
                        AnswerShorter x = new AnswerShorter();
                        for (int k = 0; k < form[0].length(); k++) {
                            x.letter(k == place ? sign : form[0].charAt(k));
                        }
                        due(form[0] + " with the sign " + sign + " at " + place, x.tongue(), -1000 - place);
                    }
                }
            }
        }
    }

    private static void somethingLacks() {
        about("(the end, if something lacks); at least one STATEMENT");
        String text = "t01234567;n;o;i;w7,9;l4;pf;";
        for (int many = 0; many <= text.length(); many++) {
            String begun = text.substring(0, many);
            int found = 0;
            for (int k = 0; k < many; k++) {
                found += begun.charAt(k) == ';' ? 1 : 0;
            }
            AnswerShorter x = new AnswerShorter();
            due("tongue() of " + begun, tell(x, begun), begun.endsWith(";") ? found : -1000 - many);
            due("letters", x.count(4), 0);
        }
        AnswerShorter x = made("n;");
        due("no letters, with words there", x.tongue(), -1000);
        due("words", x.count(0), 1);
    }

    private static void kindOneFirst() {
        about("kind 1 comes ahead of kind 2, wherever it stands");
        due("a letter that misfits", tell(new AnswerShorter(), "l5;x"), -1003);
        due("a letter that misfits", tell(new AnswerShorter(), "t8;l5;n;x"), -1008);
        due("something that lacks", tell(new AnswerShorter(), "l5;n"), -1004);
        due("something that lacks of the wrong one", tell(new AnswerShorter(), "w8,0"), -1004);
        due("a letter that misfits in the wrong one", tell(new AnswerShorter(), "t10x"), -1003);
        due("a room's end ahead", tell(new AnswerShorter(), FULL_WORDS + "n;n;;"), -1020);
        due("a person too many ahead", tell(new AnswerShorter(), FULL_PERSONS + "ph;p;"), -1016);
    }

    private static void kindTwoPlace() {
        about("kind 2: the place of the first letter of the first STATEMENT that is not as it must be");
        String[] wrong = {"t8;", "t10;", "t07899;", "w8,1;", "l5;"};
        String[] right = {"", "n;", "t01234567;", "w7,0;l4;", "pf;t7;i;"};
        for (String w : wrong) {
            for (String r : right) {
                due(r + w, tell(new AnswerShorter(), r + w), -2000 - r.length());
                due(r + w + r, tell(new AnswerShorter(), r + w + r), -2000 - r.length());
                due(r + w + w, tell(new AnswerShorter(), r + w + w), -2000 - r.length());
                due(r + w + "l9;", tell(new AnswerShorter(), r + w + "l9;"), -2000 - r.length());
            }
        }
    }

    private static void wordRoom() {
        about("8 WORDS at most");
        String[] words = {"t0;", "n;", "o;", "i;"};
        for (String w : words) {
            due("a ninth in one text", tell(new AnswerShorter(), FULL_WORDS + w), -2016);
            AnswerShorter x = made(FULL_WORDS);
            due("words", x.count(0), 8);
            due("a ninth in another text", tell(x, w), -2000);
            due("a ninth behind what fits", tell(x, "l1;w0,2;ph;" + w), -2011);
            due("words", x.count(0), 8);
            AnswerShorter y = made("n;n;n;n;n;n;n;");
            due("an eighth and a ninth", tell(y, w + w), -2000 - w.length());
            due("words", y.count(0), 7);
            due("an eighth", tell(y, w), 1);
            due("words", y.count(0), 8);
        }
        AnswerShorter x = made(FULL_WORDS);
        due("what is no word still comes", tell(x, "w0,3;l2;pf;"), 3);
    }

    private static void personRoom() {
        about("4 PERSONS at most");
        for (char kind : "hobgf".toCharArray()) {
            String p = "p" + kind + ";";
            due("a fifth in one text", tell(new AnswerShorter(), FULL_PERSONS + p), -2012);
            AnswerShorter x = made(FULL_PERSONS);
            due("persons", x.count(1), 4);
            due("a fifth in another text", tell(x, p), -2000);
            due("a fifth behind what fits", tell(x, "n;" + p), -2002);
            due("persons", x.count(1), 4);
            due("words", x.count(0), 0);
            AnswerShorter y = made("pf;pf;pf;");
            due("a fourth and a fifth", tell(y, p + p), -2003);
            due("persons", y.count(1), 3);
            due("a fourth", tell(y, p), 1);
            due("persons", y.count(1), 4);
        }
        due("what is no person still comes", tell(made(FULL_PERSONS), "w0,3;l2;n;"), 3);
    }

    private static void allOrNothing() {
        about("Without FAULT all of it comes, with one nothing");
        String good = "t17;ph;l2;w0,9;n;";
        for (String bad : new String[] {"l5;", "x", "n", "t10;"}) {
            AnswerShorter x = made("t0;po;l1;w0,3;");
            int fault = tell(x, good + bad);
            due("a fault behind " + good, fault < 0 ? 1 : 0, 1);
            due("words", x.count(0), 1);
            due("persons", x.count(1), 1);
            due("law", x.count(5), 1);
            due("weights", x.count(7), 10);
            due("letters", x.count(4), 0);
            due("tongue()", tell(x, good), 5);
            due("words", x.count(0), 3);
            due("word(0, 1)", x.word(0, 1), 1);
            due("word(1, 1)", x.word(1, 1), 130);
            due("word(2, 0)", x.word(2, 0), 1);
            due("persons", x.count(1), 2);
            due("law", x.count(5), 2);
            due("weights", x.count(7), 16);
        }
    }

    // ---- a SAYING and what it MEANS

    /** 0: {0,1,2,3}; 1: {0,1,4,5}; 2: NOT; 3: OR; 4: IDLE; 5: {7}. */
    private static AnswerShorter speech() {
        return with("t0123;t0145;n;o;i;t7;");
    }

    private static void noWords() {
        about("a SAYING of 0 WORDS MEANS all CASES");
        AnswerShorter x = new AnswerShorter();
        due("means() without words", x.means(), 255);
        due("means() with words", speech().means(), 255);
        AnswerShorter y = speech();
        meansOf(y, 15, 0);
        meansOf(y, 255);
    }

    private static void sixWords() {
        about("a SAYING of 6 WORDS");
        AnswerShorter x = speech();
        meansOf(x, 255, 4, 4, 4, 4, 4, 4);
        meansOf(x, 15, 0, 0, 0, 0, 0, 0);
        meansOf(x, 128, 4, 4, 4, 4, 4, 5);
        meansOf(x, 240, 2, 2, 2, 2, 2, 0);
        meansOf(x, 63, 0, 2, 3, 4, 2, 1);
        ask(x, 0, 0, 0, 0, 0, 1);
        due("a seventh", x.row(5), -6);
        meansOf(x, 3);
    }

    private static void idleWords() {
        about("an IDLE one nothing");
        AnswerShorter x = speech();
        meansOf(x, 255, 4);
        meansOf(x, 15, 4, 0);
        meansOf(x, 15, 0, 4);
        meansOf(x, 3, 0, 4, 1);
        meansOf(x, 240, 2, 4, 0);
        meansOf(x, 15, 2, 4, 2, 0);
        meansOf(x, 63, 0, 4, 3, 4, 1);
        meansOf(x, 15, 4, 3, 4, 0);
    }

    private static void nots() {
        about("a NOT turns round the next TELLING one, two undo one another");
        AnswerShorter x = speech();
        meansOf(x, 240, 2, 0);
        meansOf(x, 48, 2, 0, 1);
        meansOf(x, 12, 0, 2, 1);
        meansOf(x, 192, 2, 0, 2, 1);
        meansOf(x, 15, 2, 2, 0);
        meansOf(x, 15, 2, 3, 2, 0);
        meansOf(x, 240, 2, 2, 2, 0);
        meansOf(x, 15, 2, 2, 2, 2, 0);
        meansOf(x, 12, 2, 2, 0, 2, 1);
        meansOf(x, 127, 2, 5);
        AnswerShorter all = with("t01234567;n;");
        meansOf(all, 255, 0);
        meansOf(all, 0, 1, 0);
        meansOf(all, 0, 1, 0, 0);
    }

    private static void ors() {
        about("an OR: the next TELLING one is joined to what there is till then, others are met with it");
        AnswerShorter x = speech();
        meansOf(x, 63, 0, 3, 1);
        meansOf(x, 63, 0, 3, 3, 1);
        meansOf(x, 131, 0, 1, 3, 5);
        meansOf(x, 3, 0, 3, 5, 1);
        meansOf(x, 0, 0, 3, 1, 5);
        meansOf(x, 191, 0, 3, 5, 3, 1);
        meansOf(x, 51, 0, 5, 3, 1);
        meansOf(x, 207, 0, 3, 2, 1);
        meansOf(x, 207, 0, 2, 3, 1);
        meansOf(x, 255, 0, 3, 2, 0);
    }

    private static void noneFollows() {
        about("NOT and OR that no TELLING one follows do nothing");
        AnswerShorter x = speech();
        meansOf(x, 255, 2);
        meansOf(x, 255, 3);
        meansOf(x, 255, 2, 3);
        meansOf(x, 255, 3, 2);
        meansOf(x, 255, 2, 4);
        meansOf(x, 15, 0, 2);
        meansOf(x, 15, 0, 3);
        meansOf(x, 15, 0, 2, 3);
        meansOf(x, 15, 0, 3, 2, 4);
        meansOf(x, 240, 2, 0, 2);
        // What stood at the end of one saying does not wait for the next.
        meansOf(x, 51, 1);
    }

    private static void leadingOr() {
        about("An OR ahead of the first TELLING one does nothing");
        AnswerShorter x = speech();
        meansOf(x, 15, 3, 0);
        meansOf(x, 15, 3, 3, 0);
        meansOf(x, 3, 3, 0, 1);
        meansOf(x, 240, 3, 2, 0);
        meansOf(x, 240, 2, 3, 0);
        meansOf(x, 15, 4, 3, 4, 0);
        meansOf(x, 63, 3, 0, 3, 1);
    }

    // ---- LAWS

    private static void laws() {
        about("LAWS, for every row behind every saying");
        for (int law = 0; law <= 4; law++) {
            for (int n = 0; n <= 6; n++) {
                for (int idle = 0; idle <= n; idle++) {
                    followsAll(law, n, idle);
                }
            }
        }
    }

    private static void followsAll(int law, int n, int idle) {
        AnswerShorter x = with("t0;i;l" + law + ";");
        int[] row = new int[n];
        for (int k = 0; k < idle; k++) {
            row[k] = 1;
        }
        for (int ahead = 0; ahead <= 6; ahead++) {
            for (int idleAhead = 0; idleAhead <= ahead; idleAhead++) {
                boolean may = law == 0 && n < ahead || law == 1 && n <= ahead
                    || law == 2 && n - idle < ahead - idleAhead || law == 3 && n - ahead == 1 || law == 4;
                followsBy(x, may ? 1 : 0, ahead, idleAhead, row);
            }
        }
    }

    // ---- what SETTLES

    private static void settles() {
        about("a saying SETTLES, if it has no CASE outside Q, or none in Q");
        for (int set = 1; set <= 255; set++) {
            String text = "t" + digits(set) + ";";
            for (int q = 0; q <= 255; q += 128) {
                AnswerShorter x = with(text);
                for (int k = q; k < q + 128; k++) {
                    x.row(0);
                    due(text + " settles(" + k + ")", x.settles(k), (set & k) == set || (set & k) == 0 ? 1 : 0);
                }
            }
        }
    }

    private static String digits(int set) {
        StringBuilder s = new StringBuilder();
        for (int c = 0; c < 8; c++) {
            if ((set >> c & 1) != 0) {
                s.append(c);
            }
        }
        return s.toString();
    }

    private static void emptySettlesNothing() {
        about("a saying SETTLES, if its MEANING is not empty");
        for (int q = 0; q <= 255; q += 64) {
            AnswerShorter x = with("t0;t1;");
            for (int k = q; k < q + 64; k++) {
                settlesBy(x, 0, k, 0, 1);
            }
        }
        AnswerShorter all = new AnswerShorter();
        for (int q = 0; q <= 255; q++) {
            due("all CASES settle " + q, all.settles(q), q == 0 || q == 255 ? 1 : 0);
        }
    }

    // ---- ANSWERS

    private static void answersFollow() {
        about("ANSWERS that MAY follow");
        // To {0} in two words: one of 1, one of 2, one of 3 words; the saying without words means more.
        int[] many = {1, 2, 1, 1, 3};
        AnswerShorter x = with("t0;ph;");
        ask(x, 0, 0);
        for (int law = 0; law <= 4; law++) {
            x.law(law);
            answersAre(x, many[law], 0, 0, 0, 0, 0, 0, 0);
        }
        x.means();
        // To no words only FREE, SAME and MORE let something be said.
        int[] toNone = {0, 1, 0, 1, 4};
        int[] toNoneElse = {0, 1, 0, 0, 1};
        for (int law = 0; law <= 4; law++) {
            x.law(law);
            int a = toNone[law];
            int b = toNoneElse[law];
            answersAre(x, a, b, b, b, b, b, b, b);
        }
    }

    private static void answersWithIdleOnes() {
        about("ANSWERS that MEAN as much, of other lengths or with other numbers of IDLE ones");
        // 0: NOT; 1: IDLE. All that can be said means all CASES.
        AnswerShorter x = with("n;i;");
        ask(x, 0, 0);
        int[] many = {1 + 2, 1 + 2 + 4, 1 + 2 + 3 + 4, 8, 15};
        for (int law = 0; law <= 4; law++) {
            x.law(law);
            int a = many[law];
            answersAre(x, a, a, a, a, a, a, a, a);
        }
        AnswerShorter y = with("t0;t1;i;l4;");
        answersAre(y, 15, 15, 4, 4, 4, 4, 4, 4);
    }

    private static void answerLengths() {
        about("sayings of 0 .. 3 WORDS");
        AnswerShorter x = with("t0;l3;pg;");
        answerIs(x, 0, 0);
        ask(x, 0);
        answerIs(x, 0, 0, 0);
        ask(x, 0);
        answerIs(x, 0, 0, 0, 0);
        ask(x, 0);
        silent(x, 0);
        answersAre(x, 0, 0, 0, 0, 0, 0, 0, 0);
        x.law(4);
        answerIs(x, 0, 0, 0, 0);
        answersAre(x, 3, 0, 0, 0, 0, 0, 0, 0);
        ask(x, 0, 0, 0);
        answersAre(x, 3, 0, 0, 0, 0, 0, 0, 0);
        x.law(0);
        answersAre(x, 3, 0, 0, 0, 0, 0, 0, 0);
        x.means();
        // Without words there is but the saying without words.
        AnswerShorter none = with("l4;ph;pg;");
        answersAre(none, 1, 1, 1, 1, 1, 1, 1, 1);
        answerIs(none, 0);
        answerIs(none, 1);
        none.law(0);
        answersAre(none, 0, 0, 0, 0, 0, 0, 0, 0);
        silent(none, 0);
    }

    private static void answerOrder() {
        about("by length, then by WORDS' numbers from the first on");
        // 0: OR; 1: {0}; 2: {0,1}
        AnswerShorter x = with("o;t0;t01;pf;l4;");
        ask(x, 2);
        answerIs(x, 0, 1);
        x.truth(1);
        answerIs(x, 0, 2);
        x.law(3);
        answerIs(x, 0, 0, 2);
        x.truth(0);
        answerIs(x, 0, 0, 1);
        ask(x, 2);
        answerIs(x, 0, 0, 0, 1);
        x.truth(1);
        answerIs(x, 0, 0, 0, 2);
        x.means();
        x.law(4);
        answerIs(x, 0);
    }

    private static void answersHoldTheCase() {
        about("MEAN a SET with that CASE in it");
        // Of {0,1}, {1}, {2} each answers in its own cases, with weight or without.
        AnswerShorter x = with("t01;t1;t2;l3;w1,0;w2,0;pf;");
        answersAre(x, 1, 2, 1, 0, 0, 0, 0, 0);
        x.truth(1);
        answerIs(x, 0, 0);
        x.truth(2);
        answerIs(x, 0, 2);
        x.truth(7);
        silent(x, 0);
    }

    private static void answersAnew() {
        about("the ANSWERS are of the tongue as it is");
        AnswerShorter x = with("t0;l4;pg;");
        ask(x, 0);
        answersAre(x, 3, 0, 0, 0, 0, 0, 0, 0);
        x.image();
        // With an idle word there are "0", four of 2 words less "i i", eight of 3 words less "i i i".
        tell(x, "i;");
        ask(x, 0);
        answersAre(x, 1 + 3 + 7, 0, 0, 0, 0, 0, 0, 0);
        tell(x, "w0,0;");
        answersAre(x, 1 + 3 + 7, 0, 0, 0, 0, 0, 0, 0);
        due("on()", x.on(), 1);
        ask(x, 0);
        answersAre(x, 3, 0, 0, 0, 0, 0, 0, 0);
    }

    // ---- TALKERS

    private static void answerAll(AnswerShorter x, int hide, int open, int brief, int lengthy) {
        answerIs(x, 0, hide);
        answerIs(x, 1, open);
        answerIs(x, 2, brief);
        answerIs(x, 3, lengthy);
    }

    /** Sayings of one word each answer here, so that weight alone tells the kinds apart. */
    private static void talkersByWeight() {
        about("TALKERS by WEIGHT of what it MEANS");
        AnswerShorter x = with("t01;t02;t03;l3;ph;po;pb;pg;");
        tell(x, "w1,2;w2,2;");
        answerAll(x, 0, 2, 0, 2);
        tell(x, "w3,3;");
        answerAll(x, 2, 0, 2, 0);
        tell(x, "w0,0;w1,0;w2,9;w3,0;");
        answerAll(x, 1, 0, 1, 0);
        tell(x, "w1,8;w3,7;");
        answerAll(x, 1, 2, 1, 2);
        // Few cases may weigh more than many.
        AnswerShorter few = with("t012345;t07;l3;ph;po;pb;pg;w7,6;");
        answerAll(few, 1, 0, 1, 0);
        tell(few, "w7,4;");
        answerAll(few, 0, 1, 0, 1);
    }

    private static void talkersByWords() {
        about("BRIEF of the fewest WORDS, LONG of the most");
        // 0: {0,1}; 1: {2}; 2: OR. To {0,1,2} in three words only three words say as much.
        AnswerShorter x = with("t01;t2;o;l1;ph;po;pb;pg;");
        ask(x, 0, 2, 1);
        answersAre(x, 13, 13, 13, 0, 0, 0, 0, 0);
        answerIs(x, 0, 0, 2, 1);
        answerIs(x, 1, 0);
        answerIs(x, 2, 0);
        answerIs(x, 3, 0, 0, 0);
        x.truth(2);
        answerIs(x, 0, 0, 2, 1);
        answerIs(x, 1, 1);
        answerIs(x, 2, 1);
        answerIs(x, 3, 1, 1, 1);
        // The heaviest of three words is lighter than nothing said at all.
        x.means();
        x.law(4);
        x.truth(0);
        answerIs(x, 0);
        answerIs(x, 1, 0);
        answerIs(x, 2);
        answerIs(x, 3, 0, 0, 0);
        AnswerShorter first = with("t01;t2;o;l1;pf;");
        ask(first, 0, 2, 1);
        answerIs(first, 0, 0);
    }

    private static void talkersOfEquals() {
        about("each of several the first");
        AnswerShorter x = with("t01;t02;t03;l3;ph;po;pb;pg;");
        answerAll(x, 0, 0, 0, 0);
        tell(x, "w0,0;w1,0;w2,0;w3,0;");
        answerAll(x, 0, 0, 0, 0);
        x.truth(3);
        answerAll(x, 2, 2, 2, 2);
        AnswerShorter same = with("n;t0;t0;t0;l3;ph;po;pb;pg;");
        answerAll(same, 0, 1, 0, 1);
        ask(same, 1);
        answerIs(same, 0, 1, 0);
        answerIs(same, 1, 1, 0);
        answerIs(same, 2, 1, 0);
        answerIs(same, 3, 1, 0);
    }

    private static void talkersSilent() {
        about("none: silent");
        AnswerShorter x = with("t0;ph;po;pb;pg;");
        AnswerShorter first = with("t0;pf;");
        for (int law = 0; law <= 4; law++) {
            x.law(law);
            first.law(law);
            ask(x, 0);
            ask(first, 0);
            x.truth(7);
            first.truth(7);
            for (int p = 0; p < 4; p++) {
                silent(x, p);
            }
            silent(first, 0);
            due("answers(7)", x.answers(7), 0);
            x.means();
            first.means();
        }
    }
}
