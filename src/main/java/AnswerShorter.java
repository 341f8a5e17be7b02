import java.util.Arrays;

/** A tongue of words, what its sayings mean, which answers may be given to them, and by whom. */
public final class AnswerShorter {
    private static final int NOBODY = -1;
    private static final int OTHER = -2;
    private static final int STATE = -3;
    private static final int BELOW = -4;
    private static final int ROOM = -6;
    private static final int NONE = -9;

    private static final int CASES = 8;
    private static final int ALL_CASES = 255;
    private static final int MOST_WORDS = 8;
    private static final int MOST_PERSONS = 4;
    private static final int MOST_LETTERS = 64;
    private static final int MOST_SAYINGS = 12;
    private static final int ROW_LENGTH = 6;
    private static final int MOST_LOTS = 30;

    private static final int TELLING = 0;
    private static final int NOT = 1;
    private static final int OR = 2;
    private static final int IDLE = 3;

    private static final int FEWER = 0;
    private static final int SAME = 1;
    private static final int BARE = 2;
    private static final int MORE = 3;
    private static final int LAWS = 5;

    private static final int HIDE = 0;
    private static final int OPEN = 1;
    private static final int BRIEF = 2;
    private static final int LONG = 3;
    private static final int TALKERS = 5;
    private static final String TALKER_LETTERS = "hobgf";

    /** Differences of idle() may be below 0, so its refusals lie far above all of them. */
    private static final int IDLE_REFUSAL = 1000000000;

    private final Letters letters = new Letters();
    private final Tongue speech = new Tongue();
    private final Tongue draft = new Tongue();
    private final Row asked = new Row();
    private final Row heard = new Row();
    private final Talk talk = new Talk();
    private final Sayings sayings = new Sayings(speech, 0);
    private final Sayings idler = new Sayings(speech, 1);
    private final Image kept = new Image();
    private final int[] refusals = new int[7];
    private int meantCases;

    public AnswerShorter() {
    }

    public int letter(int c) {
        if (c < 0) {
            return refuse(BELOW);
        }
        if (c > 255 || letters.size >= MOST_LETTERS) {
            return refuse(ROOM);
        }
        letters.add(c);
        return letters.size;
    }

    public int tongue() {
        int found = letters.statements();
        if (found > 0) {
            draft.copyFrom(speech);
            found = letters.tellTo(draft);
        }
        if (found > 0) {
            speech.copyFrom(draft);
            forgetSayings();
        }
        letters.size = 0;
        return found;
    }

    public int word(int word, int what) {
        if (!speech.hasWord(word)) {
            return refuse(NOBODY);
        }
        switch (what) {
            case 0:
                return speech.kinds[word];
            case 1:
                return speech.cases[word];
            default:
                return refuse(OTHER);
        }
    }

    public int weight(int cas) {
        return isCase(cas) ? speech.weights[cas] : refuse(NOBODY);
    }

    public int truth(int cas) {
        if (!isCase(cas)) {
            return refuse(NOBODY);
        }
        int before = speech.trueCase;
        speech.trueCase = cas;
        return before;
    }

    public int law(int v) {
        if (!isLaw(v)) {
            return refuse(OTHER);
        }
        int before = speech.lawNow;
        speech.lawNow = v;
        return before;
    }

    public int row(int word) {
        return addTo(asked, word);
    }

    public int means() {
        return Sense.meaning(takeRow());
    }

    public int follows(int n, int idle) {
        if (n < 0 || idle < 0) {
            return refuse(BELOW);
        }
        if (n > ROW_LENGTH || idle > n) {
            return refuse(ROOM);
        }
        return asBit(mayFollow(speech.lawNow, takeRow(), Sense.ofLength(n, idle)));
    }

    public int settles(int q) {
        if (!isSet(q)) {
            return refuse(NOBODY);
        }
        return asBit(isSettled(q, Sense.meaning(takeRow())));
    }

    public int answer(int person, int i) {
        if (!speech.hasPerson(person)) {
            return refuse(NOBODY);
        }
        if (i < -1) {
            return refuse(BELOW);
        }
        int given = sayings.answerTo(asked.sense(speech), speech.persons[person], speech.trueCase);
        return given < 0 ? NONE : lengthOrWord(given, i);
    }

    public int answers(int cas) {
        if (!isCase(cas)) {
            return refuse(NOBODY);
        }
        return sayings.howManyAnswer(asked.sense(speech), cas);
    }

    public int least(int set, int i) {
        if (!isSet(set)) {
            return refuse(NOBODY);
        }
        if (i < -1) {
            return refuse(BELOW);
        }
        int first = sayings.firstThatMeans(set);
        return first < 0 ? NONE : lengthOrWord(first, i);
    }

    public int left(int person) {
        if (!speech.hasPerson(person)) {
            return refuse(NOBODY);
        }
        return sayings.leftBy(takeRow(), speech.persons[person]);
    }

    public int best(int person, int i) {
        if (!speech.hasPerson(person)) {
            return refuse(NOBODY);
        }
        if (i < -1) {
            return refuse(BELOW);
        }
        if (speech.words == 0) {
            return NONE;
        }
        int talker = speech.persons[person];
        if (i == -1) {
            return sayings.leftOfBest(talker, speech.lawNow);
        }
        return lengthOrWord(sayings.bestQuestion(talker, speech.lawNow), i - 1);
    }

    public int force(int set, int i) {
        if (!isSet(set)) {
            return refuse(NOBODY);
        }
        if (i < -1) {
            return refuse(BELOW);
        }
        int first = sayings.firstThatForces(set);
        return first < 0 ? NONE : lengthOrWord(first, i);
    }

    public int told(int word) {
        return addTo(heard, word);
    }

    public int meant(int person) {
        if (!speech.hasPerson(person)) {
            return refuse(NOBODY);
        }
        int given = sayings.numberOf(heard);
        heard.size = 0;
        meantCases = sayings.casesAnsweredBy(given, takeRow(), speech.persons[person]);
        return meantCases;
    }

    public int chance(int cas, int part) {
        if (!isCase(cas)) {
            return refuse(NOBODY);
        }
        if (part != 0 && part != 1) {
            return refuse(OTHER);
        }
        int above = (meantCases >> cas & 1) == 0 ? 0 : speech.weights[cas];
        if (above == 0) {
            return part;
        }
        int below = speech.weightOf(meantCases);
        int common = commonDivisor(below, above);
        if (common == 0) {
            return part;
        }
        return (part == 0 ? above : below) / common;
    }

    public int say() {
        int sense = asked.sense(speech);
        if (talk.size > 0 && !mayFollow(speech.lawNow, sense, talk.latest())) {
            return refuse(STATE);
        }
        if (talk.size >= MOST_SAYINGS) {
            return refuse(ROOM);
        }
        asked.size = 0;
        talk.add(sense);
        return talk.size;
    }

    public int saying(int i, int what) {
        if (i < 0 || i >= talk.size) {
            return refuse(NOBODY);
        }
        int sense = talk.senses[i];
        switch (what) {
            case 0:
                return Sense.length(sense);
            case 1:
                return Sense.meaning(sense);
            case 2:
                return Sense.idles(sense);
            default:
                return refuse(OTHER);
        }
    }

    public int known() {
        return talk.meaningOfAnswers();
    }

    public int silence() {
        int before = talk.size;
        talk.size = 0;
        return before;
    }

    public int longest(int n) {
        if (n < 1) {
            return refuse(BELOW);
        }
        if (n > ROW_LENGTH) {
            return refuse(ROOM);
        }
        return longestFrom(speech.lawNow, n, 1);
    }

    public int last(int n) {
        if (n < 1) {
            return refuse(BELOW);
        }
        if (n > ROW_LENGTH) {
            return refuse(ROOM);
        }
        if (longestFrom(speech.lawNow, n, 1) < 0) {
            return NONE;
        }
        return asBit(speaksLast(speech.lawNow, n, 1));
    }

    public int idle(int person) {
        if (!speech.hasPerson(person)) {
            return IDLE_REFUSAL - refuse(NOBODY);
        }
        if (speech.words == 0 || speech.words >= MOST_WORDS) {
            return IDLE_REFUSAL - refuse(STATE);
        }
        int talker = speech.persons[person];
        return sayings.leftOfBest(talker, speech.lawNow) - idler.leftOfBest(talker, speech.lawNow);
    }

    public int under(int person, int law) {
        if (!speech.hasPerson(person)) {
            return refuse(NOBODY);
        }
        if (!isLaw(law)) {
            return refuse(OTHER);
        }
        return speech.words == 0 ? NONE : sayings.leftOfBest(speech.persons[person], law);
    }

    public int lots(int person, int n, int z) {
        if (!speech.hasPerson(person)) {
            return refuse(NOBODY);
        }
        if (n < 1) {
            return refuse(BELOW);
        }
        if (n > MOST_LOTS) {
            return refuse(ROOM);
        }
        if (speech.words == 0) {
            return refuse(STATE);
        }
        return speech.weightOf(leftByLots(speech.persons[person], n, z));
    }

    public int image() {
        kept.tongueThen.copyFrom(speech);
        kept.talkThen.copyFrom(talk);
        kept.meantThen = meantCases;
        kept.taken = true;
        return speech.words;
    }

    public int on() {
        if (!kept.taken) {
            return refuse(STATE);
        }
        speech.copyFrom(kept.tongueThen);
        talk.copyFrom(kept.talkThen);
        meantCases = kept.meantThen;
        asked.size = 0;
        heard.size = 0;
        forgetSayings();
        return speech.words;
    }

    public int count(int what) {
        if (what >= 11 && what <= 16) {
            return refusals[what - 10];
        }
        switch (what) {
            case 0:
                return speech.words;
            case 1:
                return speech.people;
            case 2:
                return talk.size;
            case 3:
                return asked.size;
            case 4:
                return letters.size;
            case 5:
                return speech.lawNow;
            case 6:
                return speech.trueCase;
            case 7:
                return speech.weightOf(ALL_CASES);
            case 8:
                return heard.size;
            default:
                return NONE;
        }
    }

    private int refuse(int number) {
        if (number < 0 && -number < refusals.length) {
            refusals[-number]++;
        }
        return number;
    }

    private int addTo(Row some, int word) {
        if (!speech.hasWord(word)) {
            return refuse(NOBODY);
        }
        if (some.size >= ROW_LENGTH) {
            return refuse(ROOM);
        }
        some.add(word);
        return some.size;
    }

    /** The sense of THE ROW, which has no words then. */
    private int takeRow() {
        int sense = asked.sense(speech);
        asked.size = 0;
        return sense;
    }

    private int lengthOrWord(int saying, int i) {
        if (i == -1) {
            return sayings.lengthOf(saying);
        }
        return sayings.wordOf(saying, i);
    }

    private void forgetSayings() {
        sayings.fresh = false;
        idler.fresh = false;
    }

    private int leftByLots(int talker, int n, int z) {
        int seed = z;
        int cases = ALL_CASES;
        for (int k = 0; k < n; k++) {
            seed = stirred(seed);
            int length = 1 + drawn(seed, 3);
            int question = Sense.EMPTY;
            for (int j = 0; j < length; j++) {
                seed = stirred(seed);
                question = speech.grown(question, drawn(seed, speech.words));
            }
            cases &= sayings.casesLeftBy(question, talker, speech.trueCase);
        }
        return cases;
    }

    private static int stirred(int seed) {
        return seed * 1664525 + 1013904223;
    }

    private static int drawn(int seed, int m) {
        return m <= 0 ? 0 : (seed & 0x7fffffff) / 256 % m;
    }

    private static boolean isCase(int cas) {
        return cas >= 0 && cas < CASES;
    }

    private static boolean isSet(int set) {
        return set >= 0 && set <= ALL_CASES;
    }

    private static boolean isLaw(int v) {
        return v >= 0 && v < LAWS;
    }

    private static int asBit(boolean holds) {
        return holds ? 1 : 0;
    }

    private static int commonDivisor(int a, int b) {
        int greater = a;
        int smaller = b;
        // Weights are below 100, so far fewer steps than this lead to the end.
        for (int step = 0; smaller != 0 && step < 100; step++) {
            int rest = greater % smaller;
            greater = smaller;
            smaller = rest;
        }
        return greater;
    }

    private static boolean mayFollow(int law, int sense, int ahead) {
        int words = Sense.length(sense);
        int wordsAhead = Sense.length(ahead);
        switch (law) {
            case FEWER:
                return words < wordsAhead;
            case SAME:
                return words <= wordsAhead;
            case BARE:
                return words - Sense.idles(sense) < wordsAhead - Sense.idles(ahead);
            case MORE:
                return words == wordsAhead + 1;
            default:
                return true;
        }
    }

    private static boolean isSettled(int question, int meaning) {
        return meaning != 0 && isOnOneSide(meaning, question);
    }

    private static boolean isOnOneSide(int meaning, int set) {
        return (meaning & ~set) == 0 || (meaning & set) == 0;
    }

    /** A talk with more sayings than there are lengths has come to some length twice, so it has no end. */
    private static int longestFrom(int law, int n, int depth) {
        if (depth > ROW_LENGTH) {
            return NONE;
        }
        int most = 0;
        for (int next = 1; next <= ROW_LENGTH; next++) {
            if (mayFollow(law, Sense.ofLength(next, 0), Sense.ofLength(n, 0))) {
                int further = longestFrom(law, next, depth + 1);
                if (further < 0) {
                    return NONE;
                }
                most = Math.max(most, further);
            }
        }
        return most + 1;
    }

    /** Whether who has said n words speaks last; only asked where the talk has an end. */
    private static boolean speaksLast(int law, int n, int depth) {
        if (depth > ROW_LENGTH) {
            return true;
        }
        for (int next = 1; next <= ROW_LENGTH; next++) {
            if (mayFollow(law, Sense.ofLength(next, 0), Sense.ofLength(n, 0)) && speaksLast(law, next, depth + 1)) {
                return false;
            }
        }
        return true;
    }

    /**
     * A saying in one number: what it means, what waits for the next telling word,
     * how many of its words are idle, and how many there are.
     */
    private static final class Sense {
        static final int EMPTY = 255;
        private static final int TURNING = 1 << 8;
        private static final int JOINING = 1 << 9;
        private static final int BEGUN = 1 << 10;
        private static final int IDLE_SHIFT = 11;
        private static final int LENGTH_SHIFT = 14;
        private static final int LENGTHS = 7 << IDLE_SHIFT | 7 << LENGTH_SHIFT;

        static int meaning(int sense) {
            return sense & ALL_CASES;
        }

        static int idles(int sense) {
            return sense >> IDLE_SHIFT & 7;
        }

        static int length(int sense) {
            return sense >> LENGTH_SHIFT & 7;
        }

        static int ofLength(int words, int idles) {
            return EMPTY | idles << IDLE_SHIFT | words << LENGTH_SHIFT;
        }

        static int grown(int sense, int kind, int cases) {
            int longer = sense + (1 << LENGTH_SHIFT);
            switch (kind) {
                case NOT:
                    return longer ^ TURNING;
                case OR:
                    return (longer & BEGUN) == 0 ? longer : longer | JOINING;
                case IDLE:
                    return longer + (1 << IDLE_SHIFT);
                default:
                    return withTelling(longer, cases);
            }
        }

        private static int withTelling(int sense, int cases) {
            int added = (sense & TURNING) == 0 ? cases : ALL_CASES & ~cases;
            int before = sense & ALL_CASES;
            int after = (sense & JOINING) == 0 ? before & added : before | added;
            return sense & LENGTHS | BEGUN | after;
        }
    }

    /** What has been told: words, weights, persons, the law and the true case. */
    private static final class Tongue {
        final int[] kinds = new int[MOST_WORDS];
        final int[] cases = new int[MOST_WORDS];
        final int[] weights = {1, 1, 1, 1, 1, 1, 1, 1};
        final int[] persons = new int[MOST_PERSONS];
        int words;
        int people;
        int lawNow;
        int trueCase;

        void copyFrom(Tongue other) {
            System.arraycopy(other.kinds, 0, kinds, 0, MOST_WORDS);
            System.arraycopy(other.cases, 0, cases, 0, MOST_WORDS);
            System.arraycopy(other.weights, 0, weights, 0, CASES);
            System.arraycopy(other.persons, 0, persons, 0, MOST_PERSONS);
            words = other.words;
            people = other.people;
            lawNow = other.lawNow;
            trueCase = other.trueCase;
        }

        boolean hasWord(int word) {
            return word >= 0 && word < words;
        }

        boolean hasPerson(int person) {
            return person >= 0 && person < people;
        }

        boolean addWord(int kind, int trueIn) {
            if (words >= MOST_WORDS) {
                return false;
            }
            kinds[words] = kind;
            cases[words] = trueIn;
            words++;
            return true;
        }

        boolean addPerson(int talker) {
            if (people >= MOST_PERSONS || talker < 0 || talker >= TALKERS) {
                return false;
            }
            persons[people] = talker;
            people++;
            return true;
        }

        boolean setWeight(int cas, int heavy) {
            if (!isCase(cas)) {
                return false;
            }
            weights[cas] = heavy;
            return true;
        }

        boolean setLaw(int v) {
            if (!isLaw(v)) {
                return false;
            }
            lawNow = v;
            return true;
        }

        int weightOf(int set) {
            int sum = 0;
            for (int c = 0; c < CASES; c++) {
                if ((set >> c & 1) != 0) {
                    sum += weights[c];
                }
            }
            return sum;
        }

        /** A word beyond those that are told is taken for an idle one. */
        int grown(int sense, int word) {
            return hasWord(word) ? Sense.grown(sense, kinds[word], cases[word]) : Sense.grown(sense, IDLE, 0);
        }
    }

    /** The letters of a tongue that is not yet told. */
    private static final class Letters {
        private static final int MISFIT = -1000;
        private static final int WRONG = -2000;
        private final int[] signs = new int[MOST_LETTERS];
        int size;

        void add(int sign) {
            if (size < MOST_LETTERS) {
                signs[size] = sign;
                size++;
            }
        }

        /** How many statements the letters form, or the place of the first letter that does not fit, as a fault. */
        int statements() {
            if (size == 0) {
                return MISFIT;
            }
            int found = 0;
            int at = 0;
            for (int turn = 0; at < size && turn < MOST_LETTERS; turn++) {
                at = behind(at);
                if (at < 0) {
                    return at;
                }
                found++;
            }
            return found;
        }

        /** Tells well-formed letters to a tongue: how many statements, or the fault of the first that is wrong. */
        int tellTo(Tongue hearer) {
            int found = 0;
            int at = 0;
            for (int turn = 0; at < size && turn < MOST_LETTERS; turn++) {
                int next = behind(at);
                if (next < 0) {
                    return next;
                }
                if (!tellOne(hearer, at, next - 1)) {
                    return WRONG - at;
                }
                at = next;
                found++;
            }
            return found;
        }

        /** The place behind the statement that begins here, or a fault. */
        private int behind(int at) {
            int head = sign(at);
            return head == 't' ? behindTelling(at) : behindForm(at, formOf(head));
        }

        private int behindTelling(int at) {
            int place = at + 1;
            for (int digits = 0; digits < CASES && isDigit(sign(place)); digits++) {
                place++;
            }
            if (place == at + 1 || sign(place) != ';') {
                return MISFIT - place;
            }
            return place + 1;
        }

        private int behindForm(int at, String form) {
            if (form.isEmpty()) {
                return MISFIT - at;
            }
            for (int k = 0; k < form.length(); k++) {
                int place = at + 1 + k;
                if (!fits(form.charAt(k), sign(place))) {
                    return MISFIT - place;
                }
            }
            return at + 1 + form.length();
        }

        /**
         * What stands behind a statement's first letter: "0" for a digit, "k" for a talker's kind;
         * nothing if no statement begins so.
         */
        private static String formOf(int head) {
            switch (head) {
                case 'n':
                case 'o':
                case 'i':
                    return ";";
                case 'w':
                    return "0,0;";
                case 'l':
                    return "0;";
                case 'p':
                    return "k;";
                default:
                    return "";
            }
        }

        private static boolean fits(char form, int sign) {
            switch (form) {
                case '0':
                    return isDigit(sign);
                case 'k':
                    return talkerOf(sign) >= 0;
                default:
                    return sign == form;
            }
        }

        private boolean tellOne(Tongue hearer, int at, int end) {
            switch (sign(at)) {
                case 't':
                    return tellWord(hearer, at + 1, end);
                case 'n':
                    return hearer.addWord(NOT, 0);
                case 'o':
                    return hearer.addWord(OR, 0);
                case 'i':
                    return hearer.addWord(IDLE, 0);
                case 'w':
                    return hearer.setWeight(digit(at + 1), digit(at + 3));
                case 'l':
                    return hearer.setLaw(digit(at + 1));
                default:
                    return hearer.addPerson(talkerOf(sign(at + 1)));
            }
        }

        private boolean tellWord(Tongue hearer, int from, int end) {
            int cases = 0;
            int before = -1;
            for (int place = from; place < end; place++) {
                int cas = digit(place);
                if (cas <= before || !isCase(cas)) {
                    return false;
                }
                cases |= 1 << cas;
                before = cas;
            }
            return hearer.addWord(TELLING, cases);
        }

        /** Behind the end there is no sign, told as -1. */
        private int sign(int place) {
            return place >= 0 && place < size ? signs[place] : -1;
        }

        private int digit(int place) {
            return sign(place) - '0';
        }

        private static boolean isDigit(int sign) {
            return sign >= '0' && sign <= '9';
        }

        private static int talkerOf(int sign) {
            return sign < 0 ? -1 : TALKER_LETTERS.indexOf((char) sign);
        }
    }

    /** A row of words that is being told. */
    private static final class Row {
        final int[] words = new int[ROW_LENGTH];
        int size;

        void add(int word) {
            if (size < ROW_LENGTH) {
                words[size] = word;
                size++;
            }
        }

        int sense(Tongue speech) {
            int sense = Sense.EMPTY;
            for (int k = 0; k < size && k < ROW_LENGTH; k++) {
                sense = speech.grown(sense, words[k]);
            }
            return sense;
        }
    }

    /** The sayings said so far, each by its sense. */
    private static final class Talk {
        final int[] senses = new int[MOST_SAYINGS];
        int size;

        void add(int sense) {
            if (size < MOST_SAYINGS) {
                senses[size] = sense;
                size++;
            }
        }

        int latest() {
            return size > 0 && size <= MOST_SAYINGS ? senses[size - 1] : Sense.EMPTY;
        }

        int meaningOfAnswers() {
            int cases = ALL_CASES;
            for (int k = 1; k < size && k < MOST_SAYINGS; k += 2) {
                cases &= Sense.meaning(senses[k]);
            }
            return cases;
        }

        void copyFrom(Talk other) {
            System.arraycopy(other.senses, 0, senses, 0, MOST_SAYINGS);
            size = other.size;
        }
    }

    private static final class Image {
        final Tongue tongueThen = new Tongue();
        final Talk talkThen = new Talk();
        int meantThen;
        boolean taken;
    }

    /**
     * All sayings of 0 .. 3 words, numbered by length, then by their words: saying 0 has none,
     * and word w behind saying s makes saying s * words + 1 + w.
     * Sayings of one length, idle count and meaning serve alike in every question and answer,
     * so they are looked at as one group, in the order of each group's first saying.
     */
    private static final class Sayings {
        private static final int MOST = 585;
        private static final int LENGTHS_WITH_IDLES = 10;

        private final Tongue speech;
        private final int moreIdle;
        private final int[] senses = new int[MOST];
        private final int[] groupSense = new int[MOST];
        private final int[] groupFirst = new int[MOST];
        private final int[] groupSize = new int[MOST];
        private final int[] groupWeight = new int[MOST];
        private final int[] groupBehind = new int[LENGTHS_WITH_IDLES * (ALL_CASES + 1)];
        private final int[] fitting = new int[MOST];
        private final int[] firstFor = new int[ALL_CASES + 1];
        private final int[] bestGroup = new int[LAWS * TALKERS];
        private final int[] bestLeft = new int[LAWS * TALKERS];
        private int words;
        private int size;
        private int groups;
        private int fits;
        private boolean firstsKnown;
        boolean fresh;

        Sayings(Tongue speech, int moreIdle) {
            this.speech = speech;
            this.moreIdle = moreIdle;
        }

        /** The saying's number that a person answers with, or -1. */
        int answerTo(int question, int talker, int cas) {
            refresh();
            gather(question, speech.lawNow);
            int group = chosen(talker, cas);
            return group < 0 ? -1 : groupFirst[group];
        }

        int howManyAnswer(int question, int cas) {
            refresh();
            gather(question, speech.lawNow);
            int sum = 0;
            for (int k = 0; k < fits; k++) {
                if (holdsCase(fitting[k], cas)) {
                    sum += groupSize[fitting[k]];
                }
            }
            return sum;
        }

        int casesLeftBy(int question, int talker, int cas) {
            refresh();
            gather(question, speech.lawNow);
            int group = chosen(talker, cas);
            return group < 0 ? ALL_CASES : Sense.meaning(groupSense[group]);
        }

        /** In which cases the talker's answer would be the saying of this number. */
        int casesAnsweredBy(int saying, int question, int talker) {
            refresh();
            gather(question, speech.lawNow);
            int cases = 0;
            for (int c = 0; c < CASES; c++) {
                int group = chosen(talker, c);
                if (group >= 0 && groupFirst[group] == saying) {
                    cases |= 1 << c;
                }
            }
            return cases;
        }

        int leftBy(int question, int talker) {
            refresh();
            return leftUnder(question, talker, speech.lawNow);
        }

        private int leftUnder(int question, int talker, int law) {
            gather(question, law);
            int all = speech.weightOf(ALL_CASES);
            int sum = 0;
            for (int c = 0; c < CASES; c++) {
                if (speech.weights[c] > 0) {
                    int group = chosen(talker, c);
                    sum += speech.weights[c] * (group < 0 ? all : groupWeight[group]);
                }
            }
            return sum;
        }

        int leftOfBest(int talker, int law) {
            int at = findBest(talker, law);
            return at < 0 ? NONE : bestLeft[at];
        }

        /** The best question's number; 0, the saying without words, if there is none. */
        int bestQuestion(int talker, int law) {
            int at = findBest(talker, law);
            return at < 0 ? 0 : groupFirst[bestGroup[at]];
        }

        int firstThatForces(int set) {
            refresh();
            for (int g = 1; g < groups; g++) {
                gather(groupSense[g], speech.lawNow);
                if (forcesAnswer(set)) {
                    return groupFirst[g];
                }
            }
            return -1;
        }

        int firstThatMeans(int set) {
            refresh();
            if (!firstsKnown) {
                findFirsts();
            }
            return isSet(set) ? firstFor[set] : -1;
        }

        /** -1 for a row longer than every saying that is numbered here. */
        int numberOf(Row some) {
            refresh();
            if (some.size > 3) {
                return -1;
            }
            int saying = 0;
            for (int k = 0; k < some.size; k++) {
                saying = saying * words + 1 + some.words[k];
            }
            return saying;
        }

        int lengthOf(int saying) {
            int length = 0;
            int rest = saying;
            for (int k = 0; k < ROW_LENGTH && rest > 0 && words > 0; k++) {
                rest = (rest - 1) / words;
                length++;
            }
            return length;
        }

        int wordOf(int saying, int i) {
            int length = lengthOf(saying);
            if (i < 0 || i >= length || words <= 0) {
                return NONE;
            }
            int rest = saying;
            for (int k = length - 1; k > i; k--) {
                rest = (rest - 1) / words;
            }
            return (rest - 1) % words;
        }

        private void refresh() {
            if (fresh) {
                return;
            }
            clearGroups();
            words = Math.min(speech.words + moreIdle, MOST_WORDS);
            int shorter = 1 + words + words * words;
            senses[0] = Sense.EMPTY;
            for (int s = 0; s < shorter; s++) {
                for (int w = 0; w < words; w++) {
                    senses[s * words + 1 + w] = speech.grown(senses[s], w);
                }
            }
            size = shorter * words + 1;
            for (int s = 0; s < size; s++) {
                putInGroup(s);
            }
            Arrays.fill(bestLeft, -1);
            firstsKnown = false;
            fresh = true;
        }

        private void clearGroups() {
            for (int g = 0; g < groups; g++) {
                groupBehind[keyOf(groupSense[g])] = 0;
            }
            groups = 0;
        }

        /** groupBehind holds the group's number and 1, so that 0 says there is none yet. */
        private void putInGroup(int saying) {
            int sense = senses[saying];
            int key = keyOf(sense);
            int group = groupBehind[key] - 1;
            if (group < 0) {
                group = groups;
                groups++;
                groupBehind[key] = groups;
                groupSense[group] = sense;
                groupFirst[group] = saying;
                groupSize[group] = 0;
                groupWeight[group] = speech.weightOf(Sense.meaning(sense));
            }
            groupSize[group]++;
        }

        private static int keyOf(int sense) {
            int length = Math.min(Sense.length(sense), 3);
            int idles = Math.min(Sense.idles(sense), length);
            return (length * (length + 1) / 2 + idles) * (ALL_CASES + 1) + Sense.meaning(sense);
        }

        private void findFirsts() {
            Arrays.fill(firstFor, -1);
            for (int s = 0; s < size; s++) {
                noteFirst(senses[s], s);
            }
            for (int s = (size - 1) / Math.max(words, 1); s < size; s++) {
                for (int w = 0; w < words; w++) {
                    noteFirst(speech.grown(senses[s], w), s * words + 1 + w);
                }
            }
            firstsKnown = true;
        }

        private void noteFirst(int sense, int saying) {
            int meaning = Sense.meaning(sense);
            if (firstFor[meaning] < 0) {
                firstFor[meaning] = saying;
            }
        }

        /** Keeps the groups that may follow a question and settle it. */
        private void gather(int question, int law) {
            int asked = Sense.meaning(question);
            fits = 0;
            for (int g = 0; g < groups; g++) {
                int sense = groupSense[g];
                if (isSettled(asked, Sense.meaning(sense)) && mayFollow(law, sense, question)) {
                    fitting[fits] = g;
                    fits++;
                }
            }
        }

        private boolean holdsCase(int group, int cas) {
            return (groupSense[group] >> cas & 1) != 0;
        }

        /** The group, of those gathered, that the talker's answer is the first of; -1 if silent. */
        private int chosen(int talker, int cas) {
            int group = -1;
            for (int k = 0; k < fits; k++) {
                int other = fitting[k];
                if (holdsCase(other, cas) && (group < 0 || isLiked(talker, other, group))) {
                    group = other;
                }
            }
            return group;
        }

        private boolean isLiked(int talker, int group, int before) {
            int heavier = groupWeight[group] - groupWeight[before];
            int longer = Sense.length(groupSense[group]) - Sense.length(groupSense[before]);
            switch (talker) {
                case HIDE:
                    return heavier > 0;
                case OPEN:
                    return heavier < 0;
                case BRIEF:
                    return longer < 0 || longer == 0 && heavier > 0;
                case LONG:
                    return longer > 0 || longer == 0 && heavier < 0;
                default:
                    return false;
            }
        }

        /** Where the best question by this talker and law is kept, sought once a tongue; -1 without words. */
        private int findBest(int talker, int law) {
            refresh();
            if (groups < 2 || talker < 0 || talker >= TALKERS || !isLaw(law)) {
                return -1;
            }
            int at = law * TALKERS + talker;
            if (bestLeft[at] < 0) {
                bestGroup[at] = 1;
                bestLeft[at] = leftUnder(groupSense[1], talker, law);
                for (int g = 2; g < groups; g++) {
                    int left = leftUnder(groupSense[g], talker, law);
                    if (left < bestLeft[at]) {
                        bestLeft[at] = left;
                        bestGroup[at] = g;
                    }
                }
            }
            return at;
        }

        /**
         * Whether the groups gathered answer in every case that has weight,
         * and none of them is on both sides of the set.
         */
        private boolean forcesAnswer(int set) {
            int heavy = casesWithWeight();
            int answered = 0;
            for (int k = 0; k < fits; k++) {
                int meaning = Sense.meaning(groupSense[fitting[k]]);
                if ((meaning & heavy) != 0) {
                    if (!isOnOneSide(meaning, set)) {
                        return false;
                    }
                    answered |= meaning;
                }
            }
            return (heavy & ~answered) == 0;
        }

        private int casesWithWeight() {
            int cases = 0;
            for (int c = 0; c < CASES; c++) {
                if (speech.weights[c] > 0) {
                    cases |= 1 << c;
                }
            }
            return cases;
        }
    }
}
