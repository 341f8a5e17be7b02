import java.util.ArrayList;
import java.util.Arrays;
import java.util.List;

/**
 * The document once more, as literally and slowly as it can be read: every saying is a list of words,
 * every question looks at every answer. It is what RandomRunsTest compares the program with.
 */
final class PlainAnswerShorter {
    /** A word: 't' with its cases, or 'n', 'o', 'i'. */
    private record Word(char kind, int cases) {
    }

    private static final class Told implements Cloneable {
        List<Word> words = new ArrayList<>();
        List<Character> persons = new ArrayList<>();
        int[] weights = {1, 1, 1, 1, 1, 1, 1, 1};
        int law = 0;
        int truth = 0;

        Told copy() {
            Told t = new Told();
            t.words.addAll(words);
            t.persons.addAll(persons);
            t.weights = weights.clone();
            t.law = law;
            t.truth = truth;
            return t;
        }

        int weightOf(int set) {
            int sum = 0;
            for (int c = 0; c < 8; c++) {
                sum += (set & (1 << c)) != 0 ? weights[c] : 0;
            }
            return sum;
        }
    }

    private StringBuilder text = new StringBuilder();
    private Told told = new Told();
    private List<Integer> row = new ArrayList<>();
    private List<Integer> heard = new ArrayList<>();
    private List<List<Integer>> talk = new ArrayList<>();
    private int meant = 0;
    private Told toldThen;
    private List<List<Integer>> talkThen;
    private int meantThen;
    private final int[] refusals = new int[7];

    private int no(int number) {
        refusals[-number]++;
        return number;
    }

    // ---- what a saying means, and what may follow it

    private static int meaning(Told t, List<Integer> saying) {
        int set = 255;
        boolean tellingSeen = false;
        for (int at = 0; at < saying.size(); at++) {
            Word w = t.words.get(saying.get(at));
            if (w.kind != 't') {
                continue;
            }
            boolean turned = false;
            boolean joined = false;
            for (int k = at - 1; k >= 0 && t.words.get(saying.get(k)).kind != 't'; k--) {
                char ahead = t.words.get(saying.get(k)).kind;
                if (ahead == 'n') {
                    turned = !turned;
                }
                if (ahead == 'o') {
                    joined = true;
                }
            }
            int cases = turned ? 255 - w.cases : w.cases;
            set = joined && tellingSeen ? set | cases : set & cases;
            tellingSeen = true;
        }
        return set;
    }

    private static int idles(Told t, List<Integer> saying) {
        int sum = 0;
        for (int w : saying) {
            sum += t.words.get(w).kind == 'i' ? 1 : 0;
        }
        return sum;
    }

    private static boolean may(int law, int n, int idle, int ahead, int idleAhead) {
        return switch (law) {
            case 0 -> n < ahead;
            case 1 -> n <= ahead;
            case 2 -> n - idle < ahead - idleAhead;
            case 3 -> n == ahead + 1;
            case 4 -> true;
            default -> throw new IllegalStateException("law " + law);
        };
    }

    private static boolean settled(int q, int m) {
        boolean within = true;
        boolean without = true;
        for (int c = 0; c < 8; c++) {
            if ((m & (1 << c)) != 0) {
                within &= (q & (1 << c)) != 0;
                without &= (q & (1 << c)) == 0;
            }
        }
        return m != 0 && (within || without);
    }

    /** All sayings of from .. to words, by length, then by numbers. */
    private static List<List<Integer>> sayings(int words, int from, int to) {
        List<List<Integer>> all = new ArrayList<>();
        for (int length = from; length <= to; length++) {
            addSayings(all, new ArrayList<>(), words, length);
        }
        return all;
    }

    private static void addSayings(List<List<Integer>> all, List<Integer> begun, int words, int lacking) {
        if (lacking == 0) {
            all.add(new ArrayList<>(begun));
            return;
        }
        for (int w = 0; w < words; w++) {
            begun.add(w);
            addSayings(all, begun, words, lacking - 1);
            begun.remove(begun.size() - 1);
        }
    }

    /** Every saying that can be an answer, with what is asked of it again and again. */
    private static final class Book {
        final Told t;
        final List<List<Integer>> sayings;
        final int[] means;
        final int[] idle;
        final int[] weight;

        Book(Told t) {
            this.t = t;
            sayings = sayings(t.words.size(), 0, 3);
            means = new int[sayings.size()];
            idle = new int[sayings.size()];
            weight = new int[sayings.size()];
            for (int s = 0; s < means.length; s++) {
                means[s] = meaning(t, sayings.get(s));
                idle[s] = idles(t, sayings.get(s));
                weight[s] = t.weightOf(means[s]);
            }
        }

        List<Integer> settling(List<Integer> question, int law) {
            int q = meaning(t, question);
            int n = question.size();
            int i = idles(t, question);
            List<Integer> found = new ArrayList<>();
            for (int s = 0; s < means.length; s++) {
                if (may(law, sayings.get(s).size(), idle[s], n, i) && settled(q, means[s])) {
                    found.add(s);
                }
            }
            return found;
        }

        List<Integer> answers(List<Integer> settling, int cas) {
            List<Integer> found = new ArrayList<>();
            for (int s : settling) {
                if ((means[s] & (1 << cas)) != 0) {
                    found.add(s);
                }
            }
            return found;
        }

        /** -1 if silent. */
        int given(char kind, List<Integer> answers) {
            if (answers.isEmpty()) {
                return -1;
            }
            int fewest = 9;
            int most = 0;
            for (int s : answers) {
                fewest = Math.min(fewest, sayings.get(s).size());
                most = Math.max(most, sayings.get(s).size());
            }
            int best = -1;
            for (int s : answers) {
                int length = sayings.get(s).size();
                if (kind == 'b' && length != fewest || kind == 'g' && length != most) {
                    continue;
                }
                boolean heavy = kind == 'h' || kind == 'b';
                boolean light = kind == 'o' || kind == 'g';
                if (best < 0 || heavy && weight[s] > weight[best] || light && weight[s] < weight[best]) {
                    best = s;
                }
            }
            return best;
        }

        int left(char kind, List<Integer> question, int law) {
            List<Integer> settling = settling(question, law);
            int sum = 0;
            for (int c = 0; c < 8; c++) {
                int s = given(kind, answers(settling, c));
                sum += t.weights[c] * (s < 0 ? t.weightOf(255) : weight[s]);
            }
            return sum;
        }

        /** LEFT, then the words of BEST. */
        List<Integer> best(char kind, int law) {
            int least = Integer.MAX_VALUE;
            List<Integer> which = null;
            for (List<Integer> question : sayings) {
                if (!question.isEmpty()) {
                    int left = left(kind, question, law);
                    if (left < least) {
                        least = left;
                        which = question;
                    }
                }
            }
            List<Integer> found = new ArrayList<>();
            found.add(least);
            found.addAll(which);
            return found;
        }

        boolean forces(List<Integer> question, int set, int law) {
            List<Integer> settling = settling(question, law);
            for (int c = 0; c < 8; c++) {
                if (t.weights[c] > 0) {
                    List<Integer> answers = answers(settling, c);
                    if (answers.isEmpty()) {
                        return false;
                    }
                    for (int s : answers) {
                        if (!settled(set, means[s])) {
                            return false;
                        }
                    }
                }
            }
            return true;
        }
    }

    // ---- the face

    int letter(int c) {
        if (c < 0) {
            return no(-4);
        }
        if (c > 255 || text.length() == 64) {
            return no(-6);
        }
        text.append((char) c);
        return text.length();
    }

    int tongue() {
        String all = text.toString();
        text = new StringBuilder();
        // Kind 1: the longest beginning that some tongue has.
        int good = 0;
        while (good < all.length() && canGoOn(all.substring(0, good + 1))) {
            good++;
        }
        if (good < all.length()) {
            return -1000 - good;
        }
        if (!all.endsWith(";")) {
            return -1000 - good;
        }
        Told t = told.copy();
        int at = 0;
        int statements = 0;
        for (String statement : all.split(";")) {
            if (!tell(t, statement)) {
                return -2000 - at;
            }
            at += statement.length() + 1;
            statements++;
        }
        told = t;
        return statements;
    }

    private static boolean canGoOn(String begun) {
        String whole = "(t[0-9]{1,8}|n|o|i|w[0-9],[0-9]|l[0-9]|p[hobgf])";
        String part = "(t[0-9]{0,8}|n|o|i|w|w[0-9]|w[0-9],|w[0-9],[0-9]|l|l[0-9]|p|p[hobgf])?";
        return begun.matches("(" + whole + ";)*" + part);
    }

    private static boolean tell(Told t, String s) {
        switch (s.charAt(0)) {
            case 't': {
                int cases = 0;
                for (int k = 1; k < s.length(); k++) {
                    if (s.charAt(k) > '7' || k > 1 && s.charAt(k) <= s.charAt(k - 1)) {
                        return false;
                    }
                    cases |= 1 << (s.charAt(k) - '0');
                }
                t.words.add(new Word('t', cases));
                return t.words.size() <= 8;
            }
            case 'w':
                if (s.charAt(1) > '7') {
                    return false;
                }
                t.weights[s.charAt(1) - '0'] = s.charAt(3) - '0';
                return true;
            case 'l':
                t.law = s.charAt(1) - '0';
                return t.law <= 4;
            case 'p':
                t.persons.add(s.charAt(1));
                return t.persons.size() <= 4;
            default:
                t.words.add(new Word(s.charAt(0), 0));
                return t.words.size() <= 8;
        }
    }

    private boolean noWord(int w) {
        return w < 0 || w >= told.words.size();
    }

    private boolean noPerson(int p) {
        return p < 0 || p >= told.persons.size();
    }

    private static boolean noCase(int c) {
        return c < 0 || c > 7;
    }

    private static boolean noSet(int s) {
        return s < 0 || s > 255;
    }

    int word(int word, int what) {
        if (noWord(word)) {
            return no(-1);
        }
        if (what != 0 && what != 1) {
            return no(-2);
        }
        Word w = told.words.get(word);
        return what == 0 ? "tnoi".indexOf(w.kind) : w.cases;
    }

    int weight(int cas) {
        return noCase(cas) ? no(-1) : told.weights[cas];
    }

    int truth(int cas) {
        if (noCase(cas)) {
            return no(-1);
        }
        int was = told.truth;
        told.truth = cas;
        return was;
    }

    int law(int v) {
        if (v < 0 || v > 4) {
            return no(-2);
        }
        int was = told.law;
        told.law = v;
        return was;
    }

    private int add(List<Integer> list, int word) {
        if (noWord(word)) {
            return no(-1);
        }
        if (list.size() == 6) {
            return no(-6);
        }
        list.add(word);
        return list.size();
    }

    int row(int word) {
        return add(row, word);
    }

    private List<Integer> take() {
        List<Integer> taken = row;
        row = new ArrayList<>();
        return taken;
    }

    int means() {
        return meaning(told, take());
    }

    int follows(int n, int idle) {
        if (n < 0 || idle < 0) {
            return no(-4);
        }
        if (n > 6 || idle > n) {
            return no(-6);
        }
        List<Integer> r = take();
        return may(told.law, r.size(), idles(told, r), n, idle) ? 1 : 0;
    }

    int settles(int q) {
        if (noSet(q)) {
            return no(-1);
        }
        return settled(q, meaning(told, take())) ? 1 : 0;
    }

    private List<Integer> given(Book book, int person, List<Integer> question, int cas) {
        int s = book.given(told.persons.get(person), book.answers(book.settling(question, told.law), cas));
        return s < 0 ? null : book.sayings.get(s);
    }

    private static int lengthOrWord(List<Integer> saying, int i) {
        if (saying == null) {
            return -9;
        }
        return i == -1 ? saying.size() : i < saying.size() ? saying.get(i) : -9;
    }

    int answer(int person, int i) {
        if (noPerson(person)) {
            return no(-1);
        }
        if (i < -1) {
            return no(-4);
        }
        return lengthOrWord(given(new Book(told), person, row, told.truth), i);
    }

    int answers(int cas) {
        if (noCase(cas)) {
            return no(-1);
        }
        Book book = new Book(told);
        return book.answers(book.settling(row, told.law), cas).size();
    }

    int least(int set, int i) {
        if (noSet(set)) {
            return no(-1);
        }
        if (i < -1) {
            return no(-4);
        }
        for (List<Integer> saying : sayings(told.words.size(), 0, 4)) {
            if (meaning(told, saying) == set) {
                return lengthOrWord(saying, i);
            }
        }
        return -9;
    }

    int left(int person) {
        return noPerson(person) ? no(-1) : new Book(told).left(told.persons.get(person), take(), told.law);
    }

    int best(int person, int i) {
        if (noPerson(person)) {
            return no(-1);
        }
        if (i < -1) {
            return no(-4);
        }
        if (told.words.isEmpty()) {
            return -9;
        }
        List<Integer> best = new Book(told).best(told.persons.get(person), told.law);
        if (i == -1) {
            return best.get(0);
        }
        return i == 0 ? best.size() - 1 : i < best.size() ? best.get(i) : -9;
    }

    int force(int set, int i) {
        if (noSet(set)) {
            return no(-1);
        }
        if (i < -1) {
            return no(-4);
        }
        Book book = new Book(told);
        for (List<Integer> question : book.sayings) {
            if (!question.isEmpty() && book.forces(question, set, told.law)) {
                return lengthOrWord(question, i);
            }
        }
        return -9;
    }

    int told(int word) {
        return add(heard, word);
    }

    int meant(int person) {
        if (noPerson(person)) {
            return no(-1);
        }
        Book book = new Book(told);
        List<Integer> question = take();
        meant = 0;
        for (int c = 0; c < 8; c++) {
            if (heard.equals(given(book, person, question, c))) {
                meant |= 1 << c;
            }
        }
        heard = new ArrayList<>();
        return meant;
    }

    int chance(int cas, int part) {
        if (noCase(cas)) {
            return no(-1);
        }
        if (part != 0 && part != 1) {
            return no(-2);
        }
        int above = (meant & (1 << cas)) == 0 ? 0 : told.weights[cas];
        int below = told.weightOf(meant);
        if (above == 0) {
            return part;
        }
        for (int d = above; d > 1; d--) {
            if (above % d == 0 && below % d == 0) {
                return (part == 0 ? above : below) / d;
            }
        }
        return part == 0 ? above : below;
    }

    int say() {
        if (!talk.isEmpty()) {
            List<Integer> ahead = talk.get(talk.size() - 1);
            if (!may(told.law, row.size(), idles(told, row), ahead.size(), idles(told, ahead))) {
                return no(-3);
            }
        }
        if (talk.size() == 12) {
            return no(-6);
        }
        talk.add(take());
        return talk.size();
    }

    int saying(int i, int what) {
        if (i < 0 || i >= talk.size()) {
            return no(-1);
        }
        List<Integer> s = talk.get(i);
        return switch (what) {
            case 0 -> s.size();
            case 1 -> meaning(told, s);
            case 2 -> idles(told, s);
            default -> no(-2);
        };
    }

    int known() {
        int set = 255;
        for (int k = 0; k < talk.size(); k++) {
            set &= k % 2 == 1 ? meaning(told, talk.get(k)) : 255;
        }
        return set;
    }

    int silence() {
        int was = talk.size();
        talk.clear();
        return was;
    }

    /** Talks of k sayings, seen for so many k that one without end shows. */
    private int longestOf(int n) {
        boolean[] reached = new boolean[7];
        reached[n] = true;
        for (int sayings = 1; sayings < 50; sayings++) {
            boolean[] next = new boolean[7];
            boolean any = false;
            for (int a = 1; a <= 6; a++) {
                for (int b = 1; b <= 6; b++) {
                    if (reached[a] && may(told.law, b, 0, a, 0)) {
                        next[b] = true;
                        any = true;
                    }
                }
            }
            if (!any) {
                return sayings;
            }
            reached = next;
        }
        return -9;
    }

    int longest(int n) {
        return n < 1 ? no(-4) : n > 6 ? no(-6) : longestOf(n);
    }

    int last(int n) {
        if (n < 1) {
            return no(-4);
        }
        if (n > 6) {
            return no(-6);
        }
        return longestOf(n) == -9 ? -9 : lastOf(n) ? 1 : 0;
    }

    private boolean lastOf(int n) {
        for (int m = 1; m <= 6; m++) {
            if (may(told.law, m, 0, n, 0) && lastOf(m)) {
                return false;
            }
        }
        return true;
    }

    int idle(int person) {
        if (noPerson(person)) {
            return 1000000000 - no(-1);
        }
        if (told.words.isEmpty() || told.words.size() == 8) {
            return 1000000000 - no(-3);
        }
        Told more = told.copy();
        more.words.add(new Word('i', 0));
        char kind = told.persons.get(person);
        return new Book(told).best(kind, told.law).get(0) - new Book(more).best(kind, told.law).get(0);
    }

    int under(int person, int law) {
        if (noPerson(person)) {
            return no(-1);
        }
        if (law < 0 || law > 4) {
            return no(-2);
        }
        return told.words.isEmpty() ? -9 : new Book(told).best(told.persons.get(person), law).get(0);
    }

    private int z;

    private int draw(int m) {
        z = (int) ((z * 1664525L + 1013904223L) & 0xffffffffL);
        long bare = z & 0xffffffffL;
        if (bare >= 1L << 31) {
            bare -= 1L << 31;
        }
        return (int) (bare / 256 % m);
    }

    int lots(int person, int n, int seed) {
        if (noPerson(person)) {
            return no(-1);
        }
        if (n < 1) {
            return no(-4);
        }
        if (n > 30) {
            return no(-6);
        }
        if (told.words.isEmpty()) {
            return no(-3);
        }
        z = seed;
        Book book = new Book(told);
        int left = 255;
        for (int k = 0; k < n; k++) {
            int length = draw(3) + 1;
            List<Integer> question = new ArrayList<>();
            while (question.size() < length) {
                question.add(draw(told.words.size()));
            }
            List<Integer> answer = given(book, person, question, told.truth);
            left &= answer == null ? 255 : meaning(told, answer);
        }
        return told.weightOf(left);
    }

    int image() {
        toldThen = told.copy();
        talkThen = new ArrayList<>(talk);
        meantThen = meant;
        return told.words.size();
    }

    int on() {
        if (toldThen == null) {
            return no(-3);
        }
        told = toldThen.copy();
        talk = new ArrayList<>(talkThen);
        meant = meantThen;
        row = new ArrayList<>();
        heard = new ArrayList<>();
        return told.words.size();
    }

    int count(int what) {
        return switch (what) {
            case 0 -> told.words.size();
            case 1 -> told.persons.size();
            case 2 -> talk.size();
            case 3 -> row.size();
            case 4 -> text.length();
            case 5 -> told.law;
            case 6 -> told.truth;
            case 7 -> Arrays.stream(told.weights).sum();
            case 8 -> heard.size();
            case 11, 12, 13, 14, 15, 16 -> refusals[what - 10];
            default -> -9;
        };
    }
}
