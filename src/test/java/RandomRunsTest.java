import java.util.Random;

/** Runs of calls by seeds, on the program and on PlainAnswerShorter: every answer must be the same. */
public final class RandomRunsTest {
    private static final int RUNS = 400;
    private static final int CALLS_OF_AN_OBJECT = 512;
    private static final int MOST_LETTERS = 64;
    private static final String[] CALLS = {
        "letter", "tongue", "word", "weight", "truth", "law", "row", "means", "follows", "settles", "answer",
        "answers", "least", "left", "best", "force", "told", "meant", "chance", "say", "saying", "known",
        "silence", "longest", "last", "idle", "under", "lots", "image", "on", "count"};
    /** How often each call comes: rows often, calls that undo everything seldom. */
    private static final int[] SHARES = {
        2, 1, 6, 3, 4, 2, 60, 12, 8, 10, 14,
        10, 12, 8, 6, 6, 14, 10, 10, 14, 8, 6,
        1, 3, 3, 3, 4, 6, 1, 1, 14};
    private static final int[] EDGES = {
        Integer.MIN_VALUE, Integer.MIN_VALUE + 1, -1000000000, -2, -1, 0, 1, 6, 7, 8, 9, 12, 30, 31, 63, 64, 255, 256,
        1000000000, Integer.MAX_VALUE - 1, Integer.MAX_VALUE};

    private final Random random;
    private final AnswerShorter x = new AnswerShorter();
    private final PlainAnswerShorter y = new PlainAnswerShorter();
    private final StringBuilder story = new StringBuilder();
    private int calls;
    private boolean wrong;

    private RandomRunsTest(long seed) {
        random = new Random(seed);
    }

    public static void main(String[] args) {
        int passed = 0;
        int failed = 0;
        for (int seed = 0; seed < RUNS; seed++) {
            RandomRunsTest run = new RandomRunsTest(seed);
            run.go();
            if (run.wrong) {
                failed++;
                System.out.println("seed " + seed + ": " + run.story);
            } else {
                passed++;
            }
        }
        System.out.println("RandomRunsTest: " + passed + " runs as due, " + failed + " not");
        if (failed > 0) {
            System.exit(1);
        }
    }

    private void go() {
        if (random.nextInt(10) > 0) {
            feed(firstText());
        }
        while (calls < CALLS_OF_AN_OBJECT && !wrong) {
            int share = random.nextInt(270);
            int which = 0;
            while (which < CALLS.length - 1 && share >= SHARES[which]) {
                share -= SHARES[which];
                which++;
            }
            if (random.nextInt(60) == 0 && calls < CALLS_OF_AN_OBJECT - MOST_LETTERS) {
                feed(furtherText());
            } else {
                one(which);
            }
        }
    }

    private void feed(String text) {
        for (int k = 0; k < text.length() && !wrong; k++) {
            call("letter", text.charAt(k), 0, 0);
        }
        call("tongue", 0, 0, 0);
    }

    private String firstText() {
        StringBuilder s = new StringBuilder();
        // Many words take the slow reading long, so they come seldom.
        int words = 1 + random.nextInt(random.nextInt(20) == 0 ? 8 : 5);
        for (int w = 0; w < words; w++) {
            s.append(wordText());
        }
        int persons = 1 + random.nextInt(4);
        for (int p = 0; p < persons; p++) {
            s.append('p').append("hobgf".charAt(random.nextInt(5))).append(';');
        }
        if (random.nextBoolean()) {
            s.append('l').append(random.nextInt(5)).append(';');
        }
        return s.substring(0, Math.min(MOST_LETTERS, s.length()));
    }

    private String wordText() {
        int kind = random.nextInt(9);
        if (kind < 3) {
            return "noi".charAt(kind) + ";";
        }
        int set = random.nextInt(3) == 0 ? 1 << random.nextInt(8) | 1 << random.nextInt(8) : 1 + random.nextInt(255);
        StringBuilder s = new StringBuilder("t");
        for (int c = 0; c < 8; c++) {
            if ((set & (1 << c)) != 0) {
                s.append(c);
            }
        }
        return s.append(';').toString();
    }

    private String furtherText() {
        StringBuilder s = new StringBuilder();
        int statements = random.nextInt(5);
        for (int k = 0; k < statements; k++) {
            switch (random.nextInt(6)) {
                case 0 -> s.append(wordText());
                case 1 -> s.append('p').append("hobgf".charAt(random.nextInt(5))).append(';');
                case 2 -> s.append('l').append(random.nextInt(random.nextInt(4) == 0 ? 10 : 5)).append(';');
                default -> s.append('w').append(random.nextInt(random.nextInt(6) == 0 ? 10 : 8)).append(',')
                    .append(random.nextInt(3) == 0 ? 0 : random.nextInt(10)).append(';');
            }
        }
        if (random.nextInt(3) == 0 && s.length() > 0) {
            int at = random.nextInt(s.length());
            switch (random.nextInt(3)) {
                case 0 -> s.deleteCharAt(at);
                case 1 -> s.insert(at, "tnoiwlph;,0189x".charAt(random.nextInt(15)));
                default -> s.setCharAt(at, "tnoiwlph;,0189x".charAt(random.nextInt(15)));
            }
        }
        return s.substring(0, Math.min(MOST_LETTERS, s.length()));
    }

    private int number(int from, int to) {
        if (random.nextInt(25) == 0) {
            return EDGES[random.nextInt(EDGES.length)];
        }
        return from + random.nextInt(to - from + 1);
    }

    private int seed() {
        return random.nextInt(4) == 0 ? EDGES[random.nextInt(EDGES.length)] : random.nextInt();
    }

    private int set() {
        if (random.nextInt(3) > 0 && y.count(0) > 0) {
            int one = Math.max(0, y.word(0, 1));
            return random.nextBoolean() ? one : 255 - one;
        }
        return number(0, 255);
    }

    private void one(int which) {
        int words = Math.max(1, y.count(0));
        int persons = Math.max(1, y.count(1));
        switch (CALLS[which]) {
            case "letter" -> call("letter", number(0, 255), 0, 0);
            case "word" -> call("word", number(0, words), number(0, 2), 0);
            case "weight", "truth", "answers" -> call(CALLS[which], number(0, 7), 0, 0);
            case "law" -> call("law", number(0, 4), 0, 0);
            case "row", "told" -> call(CALLS[which], number(0, words - 1), 0, 0);
            case "follows" -> call("follows", number(0, 6), number(0, 2), 0);
            case "settles" -> call("settles", set(), 0, 0);
            case "answer", "best" -> call(CALLS[which], number(0, persons - 1), number(-1, 3), 0);
            case "least", "force" -> call(CALLS[which], set(), number(-1, 4), 0);
            case "left", "meant", "idle" -> call(CALLS[which], number(0, persons - 1), 0, 0);
            case "chance" -> call("chance", number(0, 7), number(0, 1), 0);
            case "saying" -> call("saying", number(0, 2), number(0, 2), 0);
            case "longest", "last" -> call(CALLS[which], number(1, 6), 0, 0);
            case "under" -> call("under", number(0, persons - 1), number(0, 4), 0);
            case "lots" -> call("lots", number(0, persons - 1), number(1, 30), seed());
            case "count" -> call("count", number(0, 17), 0, 0);
            default -> call(CALLS[which], 0, 0, 0);
        }
    }

    private void call(String name, int a, int b, int c) {
        if (wrong) {
            return;
        }
        int got = ofProgram(name, a, b, c);
        int due = ofPlain(name, a, b, c);
        calls++;
        story.append(name).append('(').append(a).append(',').append(b).append(',').append(c).append(")=").append(got)
            .append(' ');
        if (got != due) {
            wrong = true;
            story.append("due is ").append(due);
        }
    }

    private int ofProgram(String name, int a, int b, int c) {
        return switch (name) {
            case "letter" -> x.letter(a);
            case "tongue" -> x.tongue();
            case "word" -> x.word(a, b);
            case "weight" -> x.weight(a);
            case "truth" -> x.truth(a);
            case "law" -> x.law(a);
            case "row" -> x.row(a);
            case "means" -> x.means();
            case "follows" -> x.follows(a, b);
            case "settles" -> x.settles(a);
            case "answer" -> x.answer(a, b);
            case "answers" -> x.answers(a);
            case "least" -> x.least(a, b);
            case "left" -> x.left(a);
            case "best" -> x.best(a, b);
            case "force" -> x.force(a, b);
            case "told" -> x.told(a);
            case "meant" -> x.meant(a);
            case "chance" -> x.chance(a, b);
            case "say" -> x.say();
            case "saying" -> x.saying(a, b);
            case "known" -> x.known();
            case "silence" -> x.silence();
            case "longest" -> x.longest(a);
            case "last" -> x.last(a);
            case "idle" -> x.idle(a);
            case "under" -> x.under(a, b);
            case "lots" -> x.lots(a, b, c);
            case "image" -> x.image();
            case "on" -> x.on();
            default -> x.count(a);
        };
    }

    private int ofPlain(String name, int a, int b, int c) {
        return switch (name) {
            case "letter" -> y.letter(a);
            case "tongue" -> y.tongue();
            case "word" -> y.word(a, b);
            case "weight" -> y.weight(a);
            case "truth" -> y.truth(a);
            case "law" -> y.law(a);
            case "row" -> y.row(a);
            case "means" -> y.means();
            case "follows" -> y.follows(a, b);
            case "settles" -> y.settles(a);
            case "answer" -> y.answer(a, b);
            case "answers" -> y.answers(a);
            case "least" -> y.least(a, b);
            case "left" -> y.left(a);
            case "best" -> y.best(a, b);
            case "force" -> y.force(a, b);
            case "told" -> y.told(a);
            case "meant" -> y.meant(a);
            case "chance" -> y.chance(a, b);
            case "say" -> y.say();
            case "saying" -> y.saying(a, b);
            case "known" -> y.known();
            case "silence" -> y.silence();
            case "longest" -> y.longest(a);
            case "last" -> y.last(a);
            case "idle" -> y.idle(a);
            case "under" -> y.under(a, b);
            case "lots" -> y.lots(a, b, c);
            case "image" -> y.image();
            case "on" -> y.on();
            default -> y.count(a);
        };
    }
}
