/** What the tests share: objects made and told by letters, and answers compared with those that are due. */
abstract class Calls {
    static final int LOWEST = Integer.MIN_VALUE;
    static final int HIGHEST = Integer.MAX_VALUE;
    /** {0,1}, {0,2} and NOT. */
    static final String TWO_AND_NOT = "t01;t02;n;";

    private static int passed = 0;
    private static int failed = 0;
    private static String subject = "";

    /** What the answers below are about. */
    static void about(String what) {
        subject = what;
    }

    static void due(String what, int got, int want) {
        if (got == want) {
            passed++;
        } else {
            failed++;
            System.out.println(subject + ": " + what + " answered " + got + ", due is " + want);
        }
    }

    static void due(String what, String got, String want) {
        if (got.equals(want)) {
            passed++;
        } else {
            failed++;
            System.out.println(subject + ": " + what + " is " + got + ", due is " + want);
        }
    }

    /** Ends the test's run, with exit code 1 if an answer was not as due. */
    static void finish(String test) {
        System.out.println(test + ": " + passed + " answers as due, " + failed + " not");
        if (failed > 0) {
            System.exit(1);
        }
    }

    static void letters(AnswerShorter x, String text) {
        for (int k = 0; k < text.length(); k++) {
            due("letter of " + text, x.letter(text.charAt(k)), k + 1);
        }
    }

    static int tell(AnswerShorter x, String text) {
        letters(x, text);
        return x.tongue();
    }

    static AnswerShorter with(String text) {
        AnswerShorter x = new AnswerShorter();
        due("tongue of " + text, tell(x, text), statements(text));
        return x;
    }

    private static int statements(String text) {
        int found = 0;
        for (int k = 0; k < text.length(); k++) {
            found += text.charAt(k) == ';' ? 1 : 0;
        }
        return found;
    }

    static void ask(AnswerShorter x, int... words) {
        int already = x.count(3);
        for (int k = 0; k < words.length; k++) {
            due("row(" + words[k] + ")", x.row(words[k]), already + k + 1);
        }
    }

    static void hear(AnswerShorter x, int... words) {
        int already = x.count(8);
        for (int k = 0; k < words.length; k++) {
            due("told(" + words[k] + ")", x.told(words[k]), already + k + 1);
        }
    }

    static void said(AnswerShorter x, int want, int... words) {
        ask(x, words);
        due("say()", x.say(), want);
    }

    static void meansOf(AnswerShorter x, int want, int... words) {
        ask(x, words);
        due("means()", x.means(), want);
        due("THE ROW behind means()", x.count(3), 0);
    }

    static void followsBy(AnswerShorter x, int want, int n, int idle, int... words) {
        ask(x, words);
        due("follows(" + n + ", " + idle + ") by law " + x.count(5), x.follows(n, idle), want);
        due("THE ROW behind follows()", x.count(3), 0);
    }

    static void settlesBy(AnswerShorter x, int want, int q, int... words) {
        ask(x, words);
        due("settles(" + q + ")", x.settles(q), want);
        due("THE ROW behind settles()", x.count(3), 0);
    }

    /** Asks a person for an answer, word by word. */
    static void answerIs(AnswerShorter x, int person, int... words) {
        due("answer(" + person + ", -1)", x.answer(person, -1), words.length);
        for (int k = 0; k < words.length; k++) {
            due("answer(" + person + ", " + k + ")", x.answer(person, k), words[k]);
        }
        due("answer behind its end", x.answer(person, words.length), -9);
        due("answer(" + person + ", highest)", x.answer(person, HIGHEST), -9);
    }

    static void silent(AnswerShorter x, int person) {
        for (int i = -1; i < 4; i++) {
            due("answer(" + person + ", " + i + ") of the silent", x.answer(person, i), -9);
        }
    }

    static void answersAre(AnswerShorter x, int... many) {
        for (int c = 0; c < 8; c++) {
            due("answers(" + c + ")", x.answers(c), many[c]);
        }
    }

    static void leastIs(AnswerShorter x, int set, int... words) {
        due("least(" + set + ", -1)", x.least(set, -1), words.length);
        for (int k = 0; k < words.length; k++) {
            due("least(" + set + ", " + k + ")", x.least(set, k), words[k]);
        }
        due("least behind its end", x.least(set, words.length), -9);
        due("least(" + set + ", highest)", x.least(set, HIGHEST), -9);
    }

    static void leftIs(AnswerShorter x, int want, int person, int... words) {
        ask(x, words);
        due("left(" + person + ")", x.left(person), want);
        due("THE ROW behind left()", x.count(3), 0);
    }

    static void bestIs(AnswerShorter x, int person, int left, int... words) {
        due("best(" + person + ", -1)", x.best(person, -1), left);
        due("best(" + person + ", 0)", x.best(person, 0), words.length);
        for (int k = 0; k < words.length; k++) {
            due("best(" + person + ", " + (k + 1) + ")", x.best(person, k + 1), words[k]);
        }
        due("best behind its end", x.best(person, words.length + 1), -9);
        due("best(" + person + ", highest)", x.best(person, HIGHEST), -9);
    }

    static void forceIs(AnswerShorter x, int set, int... words) {
        due("force(" + set + ", -1)", x.force(set, -1), words.length);
        for (int k = 0; k < words.length; k++) {
            due("force(" + set + ", " + k + ")", x.force(set, k), words[k]);
        }
        due("force behind its end", x.force(set, words.length), -9);
        due("force(" + set + ", highest)", x.force(set, HIGHEST), -9);
    }

    static void meantIs(AnswerShorter x, int want, int person) {
        due("meant(" + person + ")", x.meant(person), want);
        due("THE ROW behind meant()", x.count(3), 0);
        due("the told answer behind meant()", x.count(8), 0);
    }

    static void chanceIs(AnswerShorter x, int cas, int above, int below) {
        due("chance(" + cas + ", 0)", x.chance(cas, 0), above);
        due("chance(" + cas + ", 1)", x.chance(cas, 1), below);
    }
}
