import java.io.IOException;
import java.lang.annotation.Retention;
import java.lang.annotation.RetentionPolicy;
import java.lang.reflect.InvocationTargetException;
import java.lang.reflect.Method;
import java.nio.charset.StandardCharsets;
import java.nio.file.Files;
import java.nio.file.Path;
import java.util.ArrayList;
import java.util.Arrays;
import java.util.Comparator;
import java.util.List;
import java.util.Random;
import java.util.function.Consumer;
import java.util.function.ToLongFunction;
import java.util.regex.Matcher;
import java.util.regex.Pattern;

/**
 * Each sentence of the document, also each boundary case that it names, with a test of its own. A
 * test bears the words that it holds the class to, and a name that begins with where they stand: c
 * for what comes before the terms, t for the terms, p and a number for a promise. No word of the
 * document may be left without a test. No desk is called here more often than the document allows,
 * but for the test of what comes behind that.
 */
public final class DocumentTest {
    private static final int NONE = -1;
    private static final int FULL = -2;
    private static final int[] NO_ENTRY = {-1, 16, 17, 31, 32, 48, 64, Integer.MIN_VALUE, Integer.MAX_VALUE};
    private static final int[] NO_HEAT = {-1, 12, 13, 32, Integer.MIN_VALUE, Integer.MAX_VALUE};
    private static final int[] NO_RANK = {0, -1, 17, 32, Integer.MIN_VALUE, Integer.MAX_VALUE};
    private static final long FACTORIAL_15 = 1307674368000L;
    private static final long FACTORIAL_16 = 20922789888000L;

    /** From the project's directory, where .ci/run goes. */
    private static final Path DOCUMENT = Path.of("../shared/DOC.md");
    private static final Pattern SECTION = Pattern.compile("(?ms)^## (.*?)\\n(.*?)(?=^## |\\z)");

    private static int wrong = 0;
    private static String current = "";

    @Retention(RetentionPolicy.RUNTIME)
    private @interface Says {
        String value();
    }

    public static void main(String[] args) throws IOException, IllegalAccessException {
        List<Method> tests = new ArrayList<>();
        for (Method method : DocumentTest.class.getDeclaredMethods()) {
            if (method.isAnnotationPresent(Says.class)) {
                tests.add(method);
            }
        }
        tests.sort(Comparator.comparing(Method::getName));
        for (Method test : tests) {
            runTest(test);
        }
        checkThatAllWordsAreTested(tests);
        System.out.println(wrong == 0
            ? tests.size() + " tests of sentences hold" : wrong + " answers are not as due");
        if (wrong != 0) {
            System.exit(1);
        }
    }

    private static void runTest(Method test) throws IllegalAccessException {
        current = test.getName() + " (\"" + test.getAnnotation(Says.class).value() + "\")";
        try {
            test.invoke(null);
        } catch (InvocationTargetException e) {
            wrong++;
            System.out.println(current + ": threw " + e.getCause());
        }
    }

    private static void checkThatAllWordsAreTested(List<Method> tests) throws IOException {
        current = "the document";
        int sections = 0;
        Matcher section = SECTION.matcher(Files.readString(DOCUMENT, StandardCharsets.UTF_8));
        while (section.find()) {
            String start = startOf(section.group(1));
            if (!start.isEmpty()) {
                sections++;
                dueTested(section.group(1), section.group(2), tests, start);
            }
        }
        due("sections", sections, 25);
    }

    /** How the names of the tests of a section begin; of the others nothing is to be tested here. */
    private static String startOf(String title) {
        if (title.startsWith("Promise ")) {
            int promise = Integer.parseInt(title.substring(8, title.indexOf(':')));
            return "p" + promise / 10 + promise % 10;
        }
        return title.equals("What it is") ? "c" : title.equals("Terms") ? "t" : "";
    }

    private static void dueTested(String title, String text, List<Method> tests, String start) {
        // What stands in backquotes is the face, which FaceTest has.
        String words = text.replaceAll("`.*?`", "");
        char[] left = words.toCharArray();
        for (Method test : tests) {
            String says = test.getAnnotation(Says.class).value();
            int at = test.getName().startsWith(start) ? words.indexOf(says) : -1;
            while (at >= 0) {
                Arrays.fill(left, at, at + says.length(), ' ');
                at = words.indexOf(says, at + 1);
            }
        }
        String untested = new String(left).replaceAll("[^\\p{L}\\p{N}]+", " ").trim();
        if (!untested.isEmpty()) {
            wrong++;
            System.out.println(title + ": no test has the words: " + untested);
        }
    }

    // ---- what a test asks

    private static void due(String what, long got, long want) {
        if (got != want) {
            wrong++;
            System.out.println(current + ": " + what + " answered " + got + ", due is " + want);
        }
    }

    private static void due(String what, boolean got, boolean want) {
        due(what, got ? 1 : 0, want ? 1 : 0);
    }

    private static void dueRefused(String what, Runnable call) {
        String thrown = "nothing";
        try {
            call.run();
        } catch (RuntimeException e) {
            thrown = e.getClass().getName();
        }
        if (!thrown.equals("java.lang.IllegalArgumentException")) {
            wrong++;
            System.out.println(current + ": " + what + " threw " + thrown);
        }
    }

    /** Heat 0 with n entries and verdicts: each two numbers say that the first one is better. */
    private static JuryDesk desk(int n, int... verdicts) {
        JuryDesk desk = new JuryDesk();
        desk.heat(0, n);
        for (int i = 0; i < verdicts.length; i += 2) {
            desk.better(0, verdicts[i], verdicts[i + 1]);
        }
        return desk;
    }

    /** Heat 0 with n entries, each of which is better than the next one. */
    private static JuryDesk ladder(int n) {
        JuryDesk desk = desk(n);
        for (int a = 0; a + 1 < n; a++) {
            desk.better(0, a, a + 1);
        }
        return desk;
    }

    /** 0 and 1 above 2, 1 above 3; its orders are 0123, 0132, 1023, 1032 and 1302. */
    private static JuryDesk letterN() {
        return desk(4, 0, 2, 1, 2, 1, 3);
    }

    private static JuryDesk scratched(JuryDesk desk, int... entries) {
        for (int a : entries) {
            desk.scratch(0, a);
        }
        return desk;
    }

    private static JuryDesk withdrawn(JuryDesk desk, int... verdicts) {
        for (int v : verdicts) {
            desk.withdraw(0, v);
        }
        return desk;
    }

    /** A heat of three entries with 400 verdicts, all of them that 0 is better than 1. */
    private static JuryDesk full() {
        JuryDesk desk = desk(3);
        for (int v = 0; v < 400; v++) {
            desk.better(0, 0, 1);
        }
        return desk;
    }

    private static void giveRow(JuryDesk desk, int... entries) {
        for (int i = 0; i < entries.length; i++) {
            desk.give(i + 1, entries[i]);
        }
    }

    private static void dueOrder(JuryDesk desk, long number, int... entries) {
        for (int i = 0; i < entries.length; i++) {
            due("order(0, " + number + ", " + (i + 1) + ")", desk.order(0, number, i + 1), entries[i]);
        }
    }

    private static void dueReason(JuryDesk desk, int... verdicts) {
        due("whyLast()", desk.whyLast(), verdicts.length);
        for (int i = 0; i < verdicts.length; i++) {
            due("why(" + i + ")", desk.why(i), verdicts[i]);
        }
        due("why(" + verdicts.length + ")", desk.why(verdicts.length), NONE);
    }

    private static void dueMean(JuryDesk desk, int a, long numerator, long denominator) {
        due("meanRank(0, " + a + ", true)", desk.meanRank(0, a, true), numerator);
        due("meanRank(0, " + a + ", false)", desk.meanRank(0, a, false), denominator);
    }

    private static void dueChance(long num, long den, long numerator, long denominator) {
        JuryDesk desk = new JuryDesk();
        String call = "chance(" + num + ", " + den;
        due(call + ", true)", desk.chance(num, den, true), numerator);
        due(call + ", false)", desk.chance(num, den, false), denominator);
    }

    private static void dueNumber(JuryDesk desk, long number, int... entries) {
        giveRow(desk, entries);
        due("numberOf(0) of " + Arrays.toString(entries), desk.numberOf(0), number);
    }

    private static void dueAsk(JuryDesk desk, int lower, int upper) {
        due("ask(0, 0)", desk.ask(0, 0), lower);
        due("ask(0, 1)", desk.ask(0, 1), upper);
    }

    private static void dueTie(JuryDesk desk, int... entries) {
        due("tie(0)", desk.tie(0), entries.length);
        for (int i = 0; i < entries.length; i++) {
            due("tieEntry(0, " + i + ")", desk.tieEntry(0, i), entries[i]);
        }
    }

    private static void dueFollowers(JuryDesk desk, int... followers) {
        for (int a = 0; a < followers.length; a++) {
            due("follows(0, " + a + ")", desk.follows(0, a), followers[a]);
        }
    }

    private static void dueCounts(JuryDesk desk, int... counts) {
        for (int what = 0; what < counts.length; what++) {
            due("count(0, " + what + ")", desk.count(0, what), counts[what]);
        }
    }

    // ---- all that is told of a heat

    private static final class Question {
        final String text;
        final ToLongFunction<JuryDesk> call;

        Question(String text, ToLongFunction<JuryDesk> call) {
            this.text = text;
            this.call = call;
        }
    }

    /** All that can be asked of a heat of up to five entries, and a little more. */
    private static List<Question> questions(int h) {
        List<Question> all = new ArrayList<>();
        all.add(new Question("orders", desk -> desk.orders(h)));
        all.add(new Question("numberOf", desk -> desk.numberOf(h)));
        all.add(new Question("tie", desk -> desk.tie(h)));
        all.add(new Question("chains", desk -> desk.chains(h)));
        for (int i = -1; i <= 5; i++) {
            int x = i;
            all.add(new Question("ask " + x, desk -> desk.ask(h, x)));
            all.add(new Question("count " + x, desk -> desk.count(h, x)));
            all.add(new Question("tieEntry " + x, desk -> desk.tieEntry(h, x)));
            all.add(new Question("follows " + x, desk -> desk.follows(h, x)));
            all.add(new Question("meanRank " + x, desk -> desk.meanRank(h, x, true)));
            all.add(new Question("meanRank " + x + " below", desk -> desk.meanRank(h, x, false)));
            addPairs(all, h, x);
        }
        return all;
    }

    private static void addPairs(List<Question> all, int h, int x) {
        for (int i = -1; i <= 6; i++) {
            int y = i;
            String pair = " " + x + " " + y;
            all.add(new Question("settled" + pair, desk -> desk.settled(h, x, y) ? 1 : 0));
            all.add(new Question("direct" + pair, desk -> desk.direct(h, x, y) ? 1 : 0));
            all.add(new Question("before" + pair, desk -> desk.before(h, x, y)));
            all.add(new Question("atRank" + pair, desk -> desk.atRank(h, x, y)));
            all.add(new Question("order" + pair, desk -> desk.order(h, x, y)));
        }
    }

    /** Each question by itself, so that none is answered from what was kept for another one. */
    private static void dueUnchanged(String what, int h, Consumer<JuryDesk> start, Consumer<JuryDesk> call) {
        for (Question question : questions(h)) {
            JuryDesk desk = new JuryDesk();
            start.accept(desk);
            long told = question.call.applyAsLong(desk);
            call.accept(desk);
            due(question.text + " after " + what, question.call.applyAsLong(desk), told);
            JuryDesk unasked = new JuryDesk();
            start.accept(unasked);
            call.accept(unasked);
            due(question.text + " first after " + what, question.call.applyAsLong(unasked), told);
        }
    }

    /** What is told after a change is the same, whether or not it was asked before the change. */
    private static void dueSame(String what, Consumer<JuryDesk> start, Consumer<JuryDesk> change,
            Consumer<JuryDesk> other) {
        for (Question question : questions(0)) {
            JuryDesk plain = new JuryDesk();
            other.accept(plain);
            long want = question.call.applyAsLong(plain);
            JuryDesk desk = new JuryDesk();
            start.accept(desk);
            question.call.applyAsLong(desk);
            change.accept(desk);
            due(question.text + " after " + what, question.call.applyAsLong(desk), want);
        }
    }

    private static void makeN(JuryDesk desk, int h) {
        desk.heat(h, 4);
        desk.better(h, 0, 2);
        desk.better(h, 1, 2);
        desk.better(h, 1, 3);
        giveRow(desk, 1, 0, 3, 2);
    }

    private static void ignoreRefusal(Runnable call) {
        try {
            call.run();
        } catch (IllegalArgumentException e) {
            return;
        }
        due("refusal", false, true);
    }

    private static void answersAsNoHeat(JuryDesk desk, int h) {
        String at = " of heat " + h;
        due("better" + at, desk.better(h, 0, 1), NONE);
        due("withdraw" + at, desk.withdraw(h, 1), false);
        due("scratch" + at, desk.scratch(h, 0), false);
        due("settled" + at, desk.settled(h, 0, 1), false);
        due("direct" + at, desk.direct(h, 0, 1), false);
        due("orders" + at, desk.orders(h), 0);
        due("atRank" + at, desk.atRank(h, 0, 1), 0);
        due("before" + at, desk.before(h, 0, 1), 0);
        due("meanRank" + at, desk.meanRank(h, 0, true), 0);
        due("meanRank below" + at, desk.meanRank(h, 0, false), 0);
        due("order" + at, desk.order(h, 0, 1), NONE);
        due("numberOf" + at, desk.numberOf(h), NONE);
        due("ask" + at, desk.ask(h, 0), NONE);
        due("tie" + at, desk.tie(h), 0);
        due("tieEntry" + at, desk.tieEntry(h, 0), NONE);
        due("chains" + at, desk.chains(h), 0);
        due("follows" + at, desk.follows(h, 0), NONE);
        due("count" + at, desk.count(h, 0), 0);
    }

    // ---- what it is

    @Says("A jury's desk: verdicts that one entry is better than another, as they come and are taken back")
    private static void c01VerdictsComeAndAreTakenBack() {
        JuryDesk desk = desk(5);
        int[] pairs = {0, 1, 1, 2, 0, 2, 3, 4, 2, 3};
        long[] told = {120, 60, 20, 20, 10, 1};
        due("orders at first", desk.orders(0), told[0]);
        for (int v = 1; v <= 5; v++) {
            due("better, verdict " + v, desk.better(0, pairs[2 * v - 2], pairs[2 * v - 1]), v);
            due("orders with verdict " + v, desk.orders(0), told[v]);
        }
        for (int v = 5; v >= 1; v--) {
            due("withdraw " + v, desk.withdraw(0, v), true);
            due("orders without verdict " + v, desk.orders(0), told[v - 1]);
        }
    }

    @Says("of all final orders that are still possible it tells exactly how many there are, "
        + "at which ranks entries stand")
    private static void c02OrdersAndRanksAreExact() {
        JuryDesk desk = desk(5, 4, 1, 1, 0, 3, 0, 4, 2);
        int[] found = new int[26];
        int[] row = new int[5];
        for (int code = 0; code < 3125; code++) {
            int set = 0;
            for (int i = 0, rest = code; i < 5; i++, rest /= 5) {
                row[i] = rest % 5;
                set |= 1 << row[i];
            }
            if (set == 31 && standsAhead(row, 4, 1) && standsAhead(row, 1, 0)
                    && standsAhead(row, 3, 0) && standsAhead(row, 4, 2)) {
                found[25]++;
                for (int i = 0; i < 5; i++) {
                    found[row[i] * 5 + i]++;
                }
            }
        }
        due("orders(0)", desk.orders(0), found[25]);
        for (int i = 0; i < 25; i++) {
            due("atRank(0, " + i / 5 + ", " + (i % 5 + 1) + ")", desk.atRank(0, i / 5, i % 5 + 1), found[i]);
        }
    }

    private static boolean standsAhead(int[] row, int a, int b) {
        for (int entry : row) {
            if (entry == a || entry == b) {
                return entry == a;
            }
        }
        return false;
    }

    @Says("which question splits them best, how wide a tie may be, and in how few rows all entries go")
    private static void c03QuestionsLeadToOneOrder() {
        JuryDesk desk = desk(6);
        int asked = 0;
        while (desk.orders(0) > 1 && asked < 15) {
            int a = desk.ask(0, 0);
            int b = desk.ask(0, 1);
            long ahead = desk.before(0, a, b);
            long behind = desk.before(0, b, a);
            due("both answers leave all orders", ahead + behind, desk.orders(0));
            due("rows of " + desk.orders(0) + " orders", desk.chains(0), desk.tie(0));
            // The answer that leaves more orders, so that no lucky one shortens the way.
            due("verdict", ahead >= behind ? desk.better(0, a, b) : desk.better(0, b, a), asked + 1);
            asked++;
            due("orders after verdict " + asked, desk.orders(0), Math.max(ahead, behind));
        }
        due("orders at last", desk.orders(0), 1);
        due("720 orders need ten questions or more", asked >= 10 && asked <= 15, true);
        dueAsk(desk, NONE, NONE);
        due("tie at last", desk.tie(0), 1);
        due("rows at last", desk.chains(0), 1);
    }

    // ---- the calls of an object

    @Says("An object is used for at most 512 calls after it has been made")
    private static void c1TheLastOf512CallsIsAnswered() {
        JuryDesk desk = new JuryDesk();
        desk.heat(0, 16);
        for (int v = 1; v <= 400; v++) {
            int a = (v - 1) % 15;
            due("better, verdict " + v, desk.better(0, a, a + 1), v);
        }
        due("better, full", desk.better(0, 0, 15), FULL);
        for (int v = 1; v <= 107; v++) {
            due("withdraw " + v, desk.withdraw(0, v), true);
        }
        due("call 510", desk.better(0, 15, 0), 0);
        due("call 511", desk.why(14), 120);
        due("call 512", desk.orders(0), 1);
    }

    @Says("An object is used for at most 512 calls after it has been made")
    private static void c2TheLastOf512DearCallsIsAnswered() {
        JuryDesk desk = new JuryDesk();
        desk.heat(0, 16);
        for (int call = 2; call < 512; call += 2) {
            int a = call / 2 % 15;
            desk.better(0, a, 15);
            due("orders, call " + (call + 1), desk.orders(0) > 0, true);
        }
        due("call 512", desk.orders(0), FACTORIAL_15);
    }

    /** Of LANGUAGE.md, rule 6, and of the document's own words on what is thrown. */
    @Says("A call of the face throws exactly what and where the document says")
    private static void c3NothingElseIsThrown() {
        int[] numbers = {Integer.MIN_VALUE, -65536, -33, -2, -1, 0, 1, 2, 3, 5, 11, 12, 15, 16, 17, 31, 32,
            399, 400, 401, 65536, Integer.MAX_VALUE};
        long[] longs = {Long.MIN_VALUE, -1, 0, 1, 2, 119, 1L << 32, FACTORIAL_16, Long.MAX_VALUE};
        for (int seed = 1; seed <= 60; seed++) {
            Random random = new Random(seed);
            JuryDesk desk = new JuryDesk();
            for (int call = 0; call < 512; call++) {
                int h = random.nextInt(4) == 0 ? numbers[random.nextInt(numbers.length)] : random.nextInt(2);
                int x = random.nextInt(3) == 0 ? numbers[random.nextInt(numbers.length)] : random.nextInt(6);
                int y = random.nextInt(3) == 0 ? numbers[random.nextInt(numbers.length)] : random.nextInt(6);
                long m = longs[random.nextInt(longs.length)];
                dueThrown(desk, random.nextInt(40), h, x, y, m);
            }
        }
    }

    private static void dueThrown(JuryDesk desk, int kind, int h, int x, int y, long m) {
        boolean refused = false;
        boolean want = false;
        try {
            switch (kind) {
                case 0:
                    want = h < 0 || h > 11 || x < 1 || x > 16;
                    desk.heat(h, x);
                    break;
                case 1:
                    want = x < 1 || x > 16 || y < -1 || y > 15;
                    desk.give(x, y);
                    break;
                case 2:
                    want = m < 0 || x < 1;
                    desk.chance(m, x, y > 2);
                    break;
                default:
                    wildCall(desk, kind, h, x, y, m);
            }
        } catch (IllegalArgumentException e) {
            refused = true;
        }
        due("IllegalArgumentException of " + kind + " with " + h + " " + x + " " + y + " " + m, refused, want);
    }

    private static void wildCall(JuryDesk desk, int kind, int h, int x, int y, long m) {
        switch (kind) {
            case 3: desk.whyLast(); break;
            case 4: desk.why(x); break;
            case 5: desk.withdraw(h, x); break;
            case 6: desk.scratch(h, x); break;
            case 7: desk.settled(h, x, y); break;
            case 8: desk.direct(h, x, y); break;
            case 9: desk.orders(h); break;
            case 10: desk.atRank(h, x, y); break;
            case 11: desk.before(h, x, y); break;
            case 12: desk.meanRank(h, x, y > 2); break;
            case 13: desk.order(h, m, x); break;
            case 14: desk.numberOf(h); break;
            case 15: desk.ask(h, x); break;
            case 16: desk.tie(h); break;
            case 17: desk.tieEntry(h, x); break;
            case 18: desk.chains(h); break;
            case 19: desk.follows(h, x); break;
            case 20: desk.count(h, x); break;
            default: desk.better(h, x, y);
        }
    }

    @Says("what later calls answer is free")
    private static void c4LaterCallsEndAndThrowNothing() {
        int[] numbers = {Integer.MIN_VALUE, -2, -1, 0, 1, 2, 3, 11, 12, 15, 16, 17, 400, Integer.MAX_VALUE};
        for (int seed = 1; seed <= 5; seed++) {
            Random random = new Random(seed);
            JuryDesk desk = desk(6);
            for (int call = 0; call < 4000; call++) {
                int h = random.nextInt(8) == 0 ? numbers[random.nextInt(numbers.length)] : 0;
                int x = random.nextInt(4) == 0 ? numbers[random.nextInt(numbers.length)] : random.nextInt(6);
                int y = random.nextInt(4) == 0 ? numbers[random.nextInt(numbers.length)] : random.nextInt(6);
                wildCall(desk, 3 + random.nextInt(37), h, x, y, random.nextInt(800));
            }
        }
    }

    // ---- terms

    @Says("HEATS are 0 .. 11")
    private static void t01HeatsAreZeroToEleven() {
        JuryDesk desk = new JuryDesk();
        for (int h = 0; h <= 11; h++) {
            desk.heat(h, h + 1);
        }
        for (int h = 0; h <= 11; h++) {
            due("count(" + h + ", 0)", desk.count(h, 0), h + 1);
        }
    }

    @Says("HEATS are 0 .. 11")
    private static void t02NoOtherHeatIs() {
        JuryDesk desk = new JuryDesk();
        for (int h = 0; h <= 11; h++) {
            desk.heat(h, 2);
            desk.better(h, 0, 1);
        }
        for (int h : NO_HEAT) {
            answersAsNoHeat(desk, h);
        }
    }

    @Says("each with up to 16 ENTRIES, 0, 1, ..")
    private static void t03EntriesAreCountedFromZero() {
        for (int n = 1; n <= 16; n++) {
            JuryDesk desk = desk(n);
            for (int a = 0; a < n; a++) {
                due("better(0, " + a + ", " + a + ") of " + n, desk.better(0, a, a), 0);
            }
            due("better(0, " + n + ", " + n + ") of " + n, desk.better(0, n, n), NONE);
            due("better(0, -1, -1) of " + n, desk.better(0, -1, -1), NONE);
        }
    }

    @Says("A VERDICT says that an entry is better than another one")
    private static void t03AnEntryIsNotBetterThanItself() {
        JuryDesk desk = desk(2);
        due("better(0, 1, 1)", desk.better(0, 1, 1), 0);
        dueCounts(desk, 2, 0, 0, 0);
        due("better(0, 1, 0)", desk.better(0, 1, 0), 1);
        due("the upper one is above", desk.settled(0, 1, 0), true);
        due("the lower one is not", desk.settled(0, 0, 1), false);
    }

    @Says("verdicts of a heat are numbered 1, 2, .. since it began")
    private static void t04VerdictsAreNumberedFromOne() {
        JuryDesk desk = desk(4);
        due("the first", desk.better(0, 0, 1), 1);
        due("the second", desk.better(0, 1, 2), 2);
        due("not there", desk.better(0, 1, 4), NONE);
        due("refused", desk.better(0, 2, 0), 0);
        due("the third", desk.better(0, 2, 3), 3);
        desk.withdraw(0, 3);
        due("the fourth, behind a withdrawn one", desk.better(0, 2, 3), 4);
        desk.scratch(0, 3);
        due("the fifth, behind one of a scratched entry", desk.better(0, 0, 2), 5);
        desk.heat(0, 4);
        due("the first anew", desk.better(0, 3, 2), 1);
    }

    @Says("IN FORCE are those that were not withdrawn")
    private static void t05WithdrawnIsNotInForce() {
        JuryDesk desk = withdrawn(desk(3, 0, 1, 1, 2), 1);
        due("in force", desk.count(0, 2), 1);
        due("settled(0, 0, 1)", desk.settled(0, 0, 1), false);
        due("settled(0, 0, 2)", desk.settled(0, 0, 2), false);
        due("settled(0, 1, 2)", desk.settled(0, 1, 2), true);
    }

    @Says("and whose entries are not scratched")
    private static void t06NotInForceWhenTheUpperOneIsScratched() {
        JuryDesk desk = scratched(desk(3, 0, 1, 1, 2), 0);
        due("in force", desk.count(0, 2), 1);
        due("settled(0, 0, 1)", desk.settled(0, 0, 1), false);
        due("orders(0)", desk.orders(0), 1);
    }

    @Says("and whose entries are not scratched")
    private static void t07NotInForceWhenTheLowerOneIsScratched() {
        JuryDesk desk = scratched(desk(3, 0, 1, 1, 2), 2);
        due("in force", desk.count(0, 2), 1);
        due("settled(0, 1, 2)", desk.settled(0, 1, 2), false);
        due("orders(0)", desk.orders(0), 1);
    }

    @Says("and whose entries are not scratched")
    private static void t08NotInForceWhenBothAreScratched() {
        JuryDesk desk = scratched(desk(4, 0, 1, 2, 3), 0, 1);
        due("in force", desk.count(0, 2), 1);
        desk.withdraw(0, 1);
        due("in force, the other one withdrawn", desk.count(0, 2), 1);
    }

    @Says("An entry is SETTLED ABOVE another one if verdicts in force lead from it down to that, one or more")
    private static void t09NoVerdictSettlesNothing() {
        JuryDesk desk = desk(2);
        due("settled(0, 0, 0)", desk.settled(0, 0, 0), false);
        due("settled(0, 0, 1)", desk.settled(0, 0, 1), false);
        desk.better(0, 0, 1);
        due("one leads", desk.settled(0, 0, 1), true);
        due("none leads back", desk.settled(0, 1, 0), false);
        due("settled(0, 0, 0)", desk.settled(0, 0, 0), false);
        due("settled(0, 1, 1)", desk.settled(0, 1, 1), false);
    }

    @Says("one or more, each one's lower entry being the next one's upper entry")
    private static void t10FifteenVerdictsLeadDown() {
        JuryDesk rising = ladder(16);
        JuryDesk falling = desk(16);
        for (int a = 0; a < 15; a++) {
            falling.better(0, a + 1, a);
        }
        for (int a = 0; a < 16; a++) {
            for (int b = 0; b < 16; b++) {
                due("settled(0, " + a + ", " + b + ")", rising.settled(0, a, b), a < b);
                due("settled(0, " + a + ", " + b + "), turned", falling.settled(0, a, b), a > b);
            }
        }
    }

    @Says("each one's lower entry being the next one's upper entry")
    private static void t10WaysLeadOverEachEntry() {
        for (int over = 0; over < 16; over++) {
            int a = (over + 1) % 16;
            int b = (over + 2) % 16;
            JuryDesk desk = desk(16, a, over, over, b);
            due("settled over " + over, desk.settled(0, a, b), true);
            due("settled back over " + over, desk.settled(0, b, a), false);
            due("count(0, 3)", desk.count(0, 3), 3);
        }
    }

    @Says("each one's lower entry being the next one's upper entry")
    private static void t11SharedEntriesDoNotLead() {
        JuryDesk desk = letterN();
        due("over a shared lower one", desk.settled(0, 0, 1), false);
        due("over a shared lower one", desk.settled(0, 1, 0), false);
        due("over a shared upper one", desk.settled(0, 2, 3), false);
        due("over both", desk.settled(0, 0, 3), false);
    }

    @Says("verdicts in force lead from it down to that")
    private static void t12OneLinkLessLeadsNoMore() {
        JuryDesk withoutVerdict = withdrawn(ladder(16), 8);
        JuryDesk withoutEntry = scratched(ladder(16), 8);
        due("a verdict is withdrawn", withoutVerdict.settled(0, 0, 15), false);
        due("an entry is scratched", withoutEntry.settled(0, 0, 15), false);
        due("above the link", withoutVerdict.settled(0, 0, 7), true);
        due("below the link", withoutVerdict.settled(0, 8, 15), true);
        due("above the entry", withoutEntry.settled(0, 0, 7), true);
        due("below the entry", withoutEntry.settled(0, 9, 15), true);
    }

    @Says("AN ORDER of a heat is a row of all its entries that are not scratched")
    private static void t13ScratchedEntriesStandInNoOrder() {
        JuryDesk desk = scratched(desk(4), 0, 2);
        due("orders(0)", desk.orders(0), 2);
        dueOrder(desk, 0, 1, 3, NONE);
        dueOrder(desk, 1, 3, 1, NONE);
        dueNumber(desk, 1, 3, 1);
        dueNumber(desk, NONE, 0, 1, 2, 3);
    }

    @Says("in which x stands ahead of y whenever x is settled above y")
    private static void t14OrdersKeepWhatIsSettled() {
        JuryDesk desk = desk(3, 2, 0);
        due("orders(0)", desk.orders(0), 3);
        dueOrder(desk, 0, 1, 2, 0);
        dueOrder(desk, 1, 2, 0, 1);
        dueOrder(desk, 2, 2, 1, 0);
        dueNumber(desk, NONE, 0, 1, 2);
        dueNumber(desk, NONE, 0, 2, 1);
        dueNumber(desk, NONE, 1, 0, 2);
    }

    @Says("in which x stands ahead of y whenever x is settled above y")
    private static void t14EachPairIsKept() {
        for (int x = 0; x < 4; x++) {
            for (int y = 0; y < 4; y++) {
                if (x != y) {
                    dueKept(x, y);
                }
            }
        }
    }

    private static void dueKept(int x, int y) {
        int other = x != 0 && y != 0 ? 0 : x != 1 && y != 1 ? 1 : 2;
        int last = 6 - x - y - other;
        JuryDesk desk = desk(4, x, y);
        giveRow(desk, other, y, last, x);
        due("numberOf with " + y + " ahead of " + x, desk.numberOf(0), NONE);
        giveRow(desk, other, x, last, y);
        due("numberOf with " + x + " ahead of " + y, desk.numberOf(0) != NONE, true);
        for (int n = 0; n < 12; n++) {
            int ahead = NONE;
            for (int r = 1; r <= 4; r++) {
                int a = desk.order(0, n, r);
                ahead = ahead == NONE && (a == x || a == y) ? a : ahead;
            }
            due("the one ahead of " + x + " and " + y + " in order " + n, ahead, x);
        }
    }

    @Says("RANKS are counted from 1, the first")
    private static void t15RanksAreCountedFromOne() {
        JuryDesk desk = ladder(16);
        due("order(0, 0, 0)", desk.order(0, 0, 0), NONE);
        due("order(0, 0, 1)", desk.order(0, 0, 1), 0);
        due("order(0, 0, 16)", desk.order(0, 0, 16), 15);
        due("atRank(0, 0, 0)", desk.atRank(0, 0, 0), 0);
        due("atRank(0, 0, 1)", desk.atRank(0, 0, 1), 1);
        due("atRank(0, 15, 16)", desk.atRank(0, 15, 16), 1);
        dueMean(desk, 0, 1, 1);
        dueMean(desk, 15, 16, 1);
    }

    @Says("Orders are NUMBERED 0, 1, .. as words in a dictionary are")
    private static void t16OrdersAreNumberedFromZero() {
        JuryDesk desk = desk(3);
        int[][] orders = {{0, 1, 2}, {0, 2, 1}, {1, 0, 2}, {1, 2, 0}, {2, 0, 1}, {2, 1, 0}};
        for (int n = 0; n < orders.length; n++) {
            dueOrder(desk, n, orders[n]);
            dueNumber(desk, n, orders[n]);
        }
        dueOrder(desk, NONE, NONE, NONE, NONE);
        dueOrder(desk, 6, NONE, NONE, NONE);
    }

    @Says("by the entry at rank 1, then at rank 2, and so on, lesser numbers first")
    private static void t17EntryTwoComesBeforeEntryTen() {
        JuryDesk desk = desk(11);
        long ways = 3628800;
        for (int a = 0; a < 11; a++) {
            due("the first with " + a + " in front", desk.order(0, a * ways, 1), a);
            due("the last with " + a + " in front", desk.order(0, a * ways + ways - 1, 1), a);
        }
        dueNumber(desk, 2 * ways, 2, 0, 1, 3, 4, 5, 6, 7, 8, 9, 10);
        dueNumber(desk, 10 * ways, 10, 0, 1, 2, 3, 4, 5, 6, 7, 8, 9);
    }

    @Says("No call but heat, better, withdraw and scratch changes what is told of a heat")
    private static void t18OtherCallsChangeNothing() {
        for (Question asked : questions(0)) {
            JuryDesk desk = new JuryDesk();
            makeN(desk, 0);
            asked.call.applyAsLong(desk);
            dueStillN(asked.text, desk);
        }
        dueUnchanged("whyLast", 0, desk -> makeN(desk, 0), JuryDesk::whyLast);
        dueUnchanged("why", 0, desk -> makeN(desk, 0), desk -> desk.why(0));
        dueUnchanged("chance", 0, desk -> makeN(desk, 0), desk -> desk.chance(4, 6, true));
        dueUnchanged("give behind the row", 0, desk -> makeN(desk, 0), desk -> desk.give(5, 0));
    }

    private static void dueStillN(String after, JuryDesk desk) {
        due("orders after " + after, desk.orders(0), 5);
        due("before after " + after, desk.before(0, 0, 3), 4);
        due("atRank after " + after, desk.atRank(0, 3, 2), 1);
        due("order after " + after, desk.order(0, 3, 3), 3);
        due("numberOf after " + after, desk.numberOf(0), 3);
        due("ask after " + after, desk.ask(0, 1), 1);
        due("tieEntry after " + after, desk.tieEntry(0, 1), 1);
        due("follows after " + after, desk.follows(0, 1), 3);
        dueCounts(desk, 4, 3, 3, 3);
    }

    @Says("and these only when they aren't refused")
    private static void t19RefusedHeatChangesNothing() {
        for (int n : new int[] {0, 17, -1, Integer.MAX_VALUE}) {
            dueUnchanged("heat(0, " + n + ")", 0, desk -> makeN(desk, 0),
                desk -> ignoreRefusal(() -> desk.heat(0, n)));
        }
        dueUnchanged("heat(12, 4)", 11, desk -> makeN(desk, 11), desk -> ignoreRefusal(() -> desk.heat(12, 4)));
        dueUnchanged("heat(-1, 4)", 0, desk -> makeN(desk, 0), desk -> ignoreRefusal(() -> desk.heat(-1, 4)));
    }

    @Says("and these only when they aren't refused")
    private static void t20RefusedVerdictChangesNothing() {
        int[][] refused = {{2, 0}, {3, 3}, {0, 4}, {4, 0}, {-1, 2}};
        for (int[] pair : refused) {
            dueUnchanged("better " + Arrays.toString(pair), 0, desk -> makeN(desk, 0),
                desk -> due("refused", desk.better(0, pair[0], pair[1]) <= 0, true));
        }
    }

    @Says("and these only when they aren't refused")
    private static void t21RefusedVerdictOfAFullHeatChangesNothing() {
        JuryDesk desk = full();
        due("orders(0)", desk.orders(0), 3);
        due("better(0, 0, 2)", desk.better(0, 0, 2), FULL);
        due("orders(0)", desk.orders(0), 3);
        due("settled(0, 0, 2)", desk.settled(0, 0, 2), false);
        due("follows(0, 0)", desk.follows(0, 0), 1);
        dueCounts(desk, 3, 400, 400, 1);
    }

    @Says("and these only when they aren't refused")
    private static void t22RefusedWithdrawalAndScratchChangeNothing() {
        for (int x : new int[] {0, 4, -1, 400, 401}) {
            dueUnchanged("withdraw " + x, 0, desk -> makeN(desk, 0),
                desk -> due("refused", desk.withdraw(0, x), false));
        }
        for (int x : new int[] {4, -1, 16, 32}) {
            dueUnchanged("scratch " + x, 0, desk -> makeN(desk, 0),
                desk -> due("refused", desk.scratch(0, x), false));
        }
        dueUnchanged("scratching the last one", 0, desk -> desk.heat(0, 1),
            desk -> due("refused", desk.scratch(0, 0), false));
    }

    @Says("changes what is told of a heat")
    private static void t23ChangesAreToldAtOnce() {
        Consumer<JuryDesk> start = desk -> makeN(desk, 0);
        List<Consumer<JuryDesk>> changes = new ArrayList<>();
        changes.add(desk -> desk.better(0, 3, 0));
        changes.add(desk -> desk.better(0, 2, 3));
        changes.add(desk -> desk.withdraw(0, 1));
        changes.add(desk -> desk.withdraw(0, 3));
        changes.add(desk -> desk.scratch(0, 0));
        changes.add(desk -> desk.scratch(0, 3));
        changes.add(desk -> desk.heat(0, 4));
        changes.add(desk -> desk.heat(0, 2));
        for (int i = 0; i < changes.size(); i++) {
            dueSame("change " + i, start, changes.get(i), start.andThen(changes.get(i)));
        }
    }

    @Says("heats have nothing to do with one another")
    private static void t24ChangesOfOneHeatAreNotToldOfAnother() {
        List<Consumer<JuryDesk>> changes = new ArrayList<>();
        changes.add(desk -> desk.heat(1, 5));
        changes.add(desk -> desk.heat(11, 1));
        changes.add(desk -> desk.better(2, 0, 1));
        changes.add(desk -> desk.better(2, 3, 0));
        changes.add(desk -> desk.withdraw(2, 1));
        changes.add(desk -> desk.scratch(2, 1));
        changes.add(desk -> desk.scratch(2, 3));
        Consumer<JuryDesk> both = desk -> {
            makeN(desk, 2);
            makeN(desk, 0);
        };
        for (int i = 0; i < changes.size(); i++) {
            dueUnchanged("change " + i + " of another heat", 0, both, changes.get(i));
        }
    }

    @Says("heats have nothing to do with one another")
    private static void t25AskingOneHeatIsNotToldOfAnother() {
        Consumer<JuryDesk> both = desk -> {
            makeN(desk, 2);
            desk.heat(0, 3);
            desk.better(0, 2, 1);
        };
        dueUnchanged("asking of heat 2", 0, both, desk -> {
            desk.order(2, 0, 1);
            desk.numberOf(2);
            desk.ask(2, 0);
            desk.tie(2);
        });
        dueUnchanged("orders of heat 2", 0, both, desk -> desk.orders(2));
    }

    @Says("heats have nothing to do with one another")
    private static void t26AFullHeatLeavesRoomInAnother() {
        JuryDesk desk = full();
        desk.heat(1, 3);
        due("better(0, 0, 2)", desk.better(0, 0, 2), FULL);
        due("better(1, 1, 0)", desk.better(1, 1, 0), 1);
        due("better(1, 0, 1)", desk.better(1, 0, 1), 0);
        due("count(0, 1)", desk.count(0, 1), 400);
        due("count(1, 1)", desk.count(1, 1), 1);
    }

    // ---- promise 1

    @Says("No heats.")
    private static void p01ANewObjectHasNoHeats() {
        JuryDesk desk = new JuryDesk();
        for (int h = 0; h <= 11; h++) {
            answersAsNoHeat(desk, h);
        }
    }

    @Says("No heats.")
    private static void p01AnotherObjectsHeatsAreNotThere() {
        JuryDesk other = letterN();
        other.better(0, 2, 0);
        other.give(1, 3);
        JuryDesk desk = new JuryDesk();
        answersAsNoHeat(desk, 0);
        due("whyLast()", desk.whyLast(), 0);
        due("give(1, 0)", desk.give(1, 0), NONE);
    }

    // ---- promise 2

    @Says("A heat begins anew, with n entries (1 .. 16)")
    private static void p02OneToSixteenEntries() {
        for (int n = 1; n <= 16; n++) {
            JuryDesk desk = desk(n);
            due("count(0, 0)", desk.count(0, 0), n);
        }
    }

    @Says("IllegalArgumentException when n or h is not so.")
    private static void p02OtherNumbersOfEntriesAreRefused() {
        for (int n : new int[] {0, -1, 17, 32, 33, Integer.MIN_VALUE, Integer.MAX_VALUE}) {
            dueRefused("heat(0, " + n + ")", () -> new JuryDesk().heat(0, n));
            dueRefused("heat(11, " + n + ")", () -> new JuryDesk().heat(11, n));
        }
    }

    @Says("IllegalArgumentException when n or h is not so.")
    private static void p02OtherHeatsAreRefused() {
        for (int h : NO_HEAT) {
            dueRefused("heat(" + h + ", 1)", () -> new JuryDesk().heat(h, 1));
            dueRefused("heat(" + h + ", 16)", () -> new JuryDesk().heat(h, 16));
            dueRefused("heat(" + h + ", 0)", () -> new JuryDesk().heat(h, 0));
        }
    }

    @Says("IllegalArgumentException when n or h is not so.")
    private static void p02ARefusedHeatDoesNotBegin() {
        JuryDesk desk = new JuryDesk();
        dueRefused("heat(3, 17)", () -> desk.heat(3, 17));
        dueRefused("heat(3, 0)", () -> desk.heat(3, 0));
        answersAsNoHeat(desk, 3);
    }

    @Says("A heat begins anew, with n entries (1 .. 16), without verdicts.")
    private static void p02AnewIsLikeTheFirstTime() {
        for (int n = 1; n <= 5; n++) {
            int entries = n;
            dueSame("heat(0, " + n + ") anew", desk -> {
                makeN(desk, 0);
                desk.withdraw(0, 2);
                desk.scratch(0, 1);
            }, desk -> desk.heat(0, entries), desk -> {
                desk.heat(0, entries);
                giveRow(desk, 1, 0, 3, 2);
            });
        }
    }

    @Says("A heat begins anew")
    private static void p02ScratchedEntriesAreBackAnew() {
        JuryDesk desk = scratched(desk(2), 1);
        due("scratched", desk.better(0, 0, 1), NONE);
        desk.heat(0, 2);
        due("back", desk.better(0, 0, 1), 1);
        due("orders(0)", desk.orders(0), 1);
    }

    @Says("A heat begins anew, with n entries")
    private static void p02EntriesBeyondAreGoneAnew() {
        JuryDesk desk = ladder(16);
        desk.heat(0, 3);
        due("better(0, 0, 3)", desk.better(0, 0, 3), NONE);
        due("scratch(0, 3)", desk.scratch(0, 3), false);
        due("orders(0)", desk.orders(0), 6);
        due("tie(0)", desk.tie(0), 3);
    }

    @Says("without verdicts")
    private static void p02NumbersBeginAnewInForce() {
        JuryDesk desk = withdrawn(desk(3, 0, 1, 1, 2), 1, 2);
        desk.heat(0, 3);
        due("withdraw(0, 1)", desk.withdraw(0, 1), false);
        due("better(0, 2, 1)", desk.better(0, 2, 1), 1);
        due("in force, though number 1 was withdrawn before", desk.settled(0, 2, 1), true);
        due("withdraw(0, 1)", desk.withdraw(0, 1), true);
        due("withdraw(0, 2)", desk.withdraw(0, 2), false);
    }

    // ---- promise 3

    @Says("A verdict: a is better than b: its number")
    private static void p03TheSameVerdictAgainHasItsOwnNumber() {
        JuryDesk desk = desk(3);
        due("first", desk.better(0, 0, 1), 1);
        due("again", desk.better(0, 0, 1), 2);
        due("on", desk.better(0, 1, 2), 3);
        due("settled already", desk.better(0, 0, 2), 4);
        dueCounts(desk, 3, 4, 4, 3);
    }

    @Says("NONE when one of both is not there or scratched (or no such heat began)")
    private static void p03NotThere() {
        JuryDesk desk = desk(5);
        for (int x : NO_ENTRY) {
            due("better(0, " + x + ", 0)", desk.better(0, x, 0), NONE);
            due("better(0, 0, " + x + ")", desk.better(0, 0, x), NONE);
        }
        for (int x = 5; x <= 15; x++) {
            due("better(0, " + x + ", 0)", desk.better(0, x, 0), NONE);
            due("better(0, 0, " + x + ")", desk.better(0, 0, x), NONE);
        }
        due("count(0, 1)", desk.count(0, 1), 0);
    }

    @Says("NONE when one of both is not there or scratched (or no such heat began)")
    private static void p03Scratched() {
        JuryDesk desk = scratched(desk(3), 1);
        due("better(0, 1, 0)", desk.better(0, 1, 0), NONE);
        due("better(0, 0, 1)", desk.better(0, 0, 1), NONE);
        due("better(0, 0, 2)", desk.better(0, 0, 2), 1);
    }

    @Says("(or no such heat began)")
    private static void p03NoSuchHeat() {
        JuryDesk desk = desk(3);
        for (int h = 1; h <= 11; h++) {
            due("better(" + h + ", 0, 1)", desk.better(h, 0, 1), NONE);
            due("better(" + h + ", 0, 0)", desk.better(h, 0, 0), NONE);
        }
        for (int h : NO_HEAT) {
            due("better(" + h + ", 0, 1)", desk.better(h, 0, 1), NONE);
        }
    }

    @Says("else 0 when b is a")
    private static void p03ItselfIsRefusedOnlyWhenThere() {
        JuryDesk desk = scratched(desk(3), 1);
        due("better(0, 0, 0)", desk.better(0, 0, 0), 0);
        due("better(0, 1, 1), scratched", desk.better(0, 1, 1), NONE);
        due("better(0, 3, 3), not there", desk.better(0, 3, 3), NONE);
        due("better(0, -1, -1), not there", desk.better(0, -1, -1), NONE);
        due("better(1, 0, 0), no such heat", desk.better(1, 0, 0), NONE);
        due("the only one", desk(1).better(0, 0, 0), 0);
    }

    @Says("or settled above it")
    private static void p03AgainstWhatIsSettled() {
        JuryDesk desk = ladder(16);
        due("against one verdict", desk.better(0, 1, 0), 0);
        due("against fifteen", desk.better(0, 15, 0), 0);
        due("along fifteen", desk.better(0, 0, 15), 16);
    }

    @Says("or settled above it")
    private static void p03FreeWhenNoMoreSettled() {
        due("withdrawn", withdrawn(ladder(3), 1).better(0, 2, 0), 3);
        due("over a scratched one", scratched(ladder(3), 1).better(0, 2, 0), 3);
        due("one of two withdrawn", withdrawn(desk(2, 0, 1, 0, 1), 1).better(0, 1, 0), 0);
        due("two of two withdrawn", withdrawn(desk(2, 0, 1, 0, 1), 1, 2).better(0, 1, 0), 3);
    }

    @Says("else -2 when there are 400 verdicts since the heat began")
    private static void p03TheFourHundredthIsTaken() {
        JuryDesk desk = desk(3);
        for (int v = 1; v <= 399; v++) {
            desk.better(0, 0, 1);
        }
        due("the last one", desk.better(0, 1, 2), 400);
        due("it holds", desk.settled(0, 0, 2), true);
        due("one more", desk.better(0, 0, 2), FULL);
        due("once more", desk.better(0, 0, 2), FULL);
        due("count(0, 1)", desk.count(0, 1), 400);
        due("withdraw(0, 400)", desk.withdraw(0, 400), true);
        due("withdraw(0, 401)", desk.withdraw(0, 401), false);
    }

    @Says("else -2 when there are 400 verdicts since the heat began, withdrawn ones too")
    private static void p03WithdrawnOnesCountToo() {
        JuryDesk desk = full();
        desk.withdraw(0, 1);
        desk.withdraw(0, 400);
        due("withdrawn", desk.better(0, 0, 2), FULL);
        desk.scratch(0, 1);
        due("scratched", desk.better(0, 0, 2), FULL);
        due("in force", desk.count(0, 2), 0);
    }

    @Says("else -2 when there are 400 verdicts since the heat began")
    private static void p03RefusedOnesDoNotCount() {
        JuryDesk desk = desk(3);
        for (int v = 1; v <= 200; v++) {
            desk.better(0, 0, 1);
        }
        for (int i = 0; i < 50; i++) {
            desk.better(0, 1, 0);
            desk.better(0, 0, 3);
        }
        for (int v = 201; v <= 400; v++) {
            due("better(0, 0, 1)", desk.better(0, 0, 1), v);
        }
        due("full", desk.better(0, 0, 1), FULL);
    }

    @Says("else 0 when b is a, or settled above it; else -2 when there are 400 verdicts")
    private static void p03AFullHeatAnswersMinusTwoLast() {
        JuryDesk desk = full();
        due("not there", desk.better(0, 0, 3), NONE);
        due("not there, itself", desk.better(0, 3, 3), NONE);
        due("no such heat", desk.better(1, 0, 1), NONE);
        due("itself", desk.better(0, 2, 2), 0);
        due("settled above", desk.better(0, 1, 0), 0);
        dueReason(desk, 1);
        desk.scratch(0, 2);
        due("scratched", desk.better(0, 0, 2), NONE);
    }

    @Says("since the heat began")
    private static void p03AFullHeatHasRoomAnew() {
        JuryDesk desk = full();
        desk.heat(0, 3);
        due("better(0, 1, 0)", desk.better(0, 1, 0), 1);
        dueCounts(desk, 3, 1, 1, 1);
    }

    // ---- promise 4

    @Says("(0 when they are the same, or before any)")
    private static void p04ZeroBeforeAny() {
        due("whyLast()", new JuryDesk().whyLast(), 0);
        JuryDesk desk = desk(2, 0, 1);
        due("after a verdict", desk.whyLast(), 0);
        desk.better(0, 0, 2);
        due("after NONE", desk.whyLast(), 0);
    }

    @Says("(0 when they are the same, or before any)")
    private static void p04ZeroWhenTheyAreTheSame() {
        JuryDesk desk = ladder(3);
        desk.better(0, 2, 0);
        due("whyLast()", desk.whyLast(), 2);
        desk.better(0, 1, 1);
        due("whyLast()", desk.whyLast(), 0);
    }

    @Says("Of the latest better() that answered 0")
    private static void p04OtherAnswersAreNotMeant() {
        JuryDesk desk = desk(4, 0, 1, 1, 2);
        desk.better(0, 2, 0);
        due("a number", desk.better(0, 0, 3), 3);
        due("whyLast()", desk.whyLast(), 2);
        due("NONE", desk.better(0, 4, 4), NONE);
        due("whyLast()", desk.whyLast(), 2);
        due("no heat", desk.better(1, 0, 0), NONE);
        due("whyLast()", desk.whyLast(), 2);
        due("the latest", desk.better(0, 1, 0), 0);
        due("whyLast()", desk.whyLast(), 1);
    }

    @Says("Of the latest better() that answered 0")
    private static void p04MinusTwoIsNotMeant() {
        JuryDesk desk = full();
        desk.better(0, 1, 0);
        due("full", desk.better(0, 2, 0), FULL);
        dueReason(desk, 1);
    }

    @Says("Of the latest better() that answered 0")
    private static void p04OfWhateverHeat() {
        JuryDesk desk = ladder(3);
        desk.heat(11, 2);
        desk.better(11, 1, 0);
        desk.better(0, 2, 0);
        due("of heat 0", desk.whyLast(), 2);
        due("refused", desk.better(11, 0, 1), 0);
        due("of heat 11", desk.whyLast(), 1);
    }

    @Says("Of the latest better() that answered 0: how many verdicts lead from its b down to its a")
    private static void p04LaterChangesAreNotMeant() {
        List<Consumer<JuryDesk>> changes = new ArrayList<>();
        changes.add(desk -> desk.withdraw(0, 1));
        changes.add(desk -> desk.scratch(0, 1));
        changes.add(desk -> desk.scratch(0, 0));
        changes.add(desk -> desk.better(0, 0, 2));
        changes.add(desk -> desk.heat(0, 1));
        changes.add(desk -> desk.heat(0, 16));
        for (Consumer<JuryDesk> change : changes) {
            JuryDesk desk = ladder(3);
            desk.better(0, 2, 0);
            change.accept(desk);
            dueReason(desk, 1, 2);
        }
    }

    @Says("as few as can be")
    private static void p04FromOneToFifteen() {
        JuryDesk desk = ladder(16);
        for (int a = 1; a <= 15; a++) {
            desk.better(0, a, 0);
            due("down to " + a, desk.whyLast(), a);
        }
        desk.better(0, 3, 14);
        desk.better(0, 15, 0);
        due("over a shorter way", desk.whyLast(), 5);
        desk.better(0, 0, 15);
        desk.better(0, 15, 0);
        due("over the shortest way", desk.whyLast(), 1);
    }

    @Says("as few as can be")
    private static void p04OnlyVerdictsInForceLead() {
        JuryDesk desk = desk(4, 0, 3, 0, 1, 1, 3, 0, 2, 2, 1);
        desk.better(0, 3, 0);
        due("the shortest", desk.whyLast(), 1);
        desk.withdraw(0, 1);
        desk.better(0, 3, 0);
        due("it is withdrawn", desk.whyLast(), 2);
        desk.withdraw(0, 2);
        desk.better(0, 3, 0);
        due("and the next one", desk.whyLast(), 3);
        desk.better(0, 2, 3);
        desk.scratch(0, 1);
        desk.better(0, 3, 0);
        dueReason(desk, 4, 6);
    }

    // ---- promise 5

    @Says("The i-th (from 0) of these verdicts")
    private static void p05CountedFromZeroAndFromTheTop() {
        JuryDesk desk = desk(4, 2, 3, 1, 2, 0, 1);
        desk.better(0, 3, 0);
        dueReason(desk, 3, 2, 1);
    }

    @Says("NONE for no such one")
    private static void p05NoSuchOne() {
        JuryDesk desk = ladder(16);
        desk.better(0, 15, 0);
        due("why(14)", desk.why(14), 15);
        due("why(15)", desk.why(15), NONE);
        for (int i : NO_ENTRY) {
            due("why(" + i + ")", desk.why(i), NONE);
        }
        desk.better(0, 1, 0);
        due("why(1), one verdict only", desk.why(1), NONE);
        due("why(14), one verdict only", desk.why(14), NONE);
    }

    @Says("NONE for no such one")
    private static void p05NoneBeforeAnyAndForTheSame() {
        JuryDesk desk = ladder(3);
        due("before any", desk.why(0), NONE);
        desk.better(0, 2, 0);
        desk.better(0, 0, 0);
        due("the same", desk.why(0), NONE);
        due("the same", desk.why(1), NONE);
    }

    @Says("of all ways of as few")
    private static void p05FewGoBeforeLeast() {
        JuryDesk desk = desk(4, 0, 1, 1, 2, 2, 3, 1, 3);
        desk.better(0, 0, 3);
        desk.better(0, 3, 0);
        dueReason(desk, 5);
    }

    @Says("the one whose first number is the least")
    private static void p05LeastFirstNumber() {
        JuryDesk desk = desk(4, 2, 3, 0, 1, 0, 2, 1, 3);
        desk.better(0, 3, 0);
        dueReason(desk, 2, 4);
    }

    @Says("of those the second, and so on")
    private static void p05LeastSecondNumber() {
        JuryDesk desk = desk(5, 0, 1, 3, 4, 1, 2, 1, 3, 2, 4);
        desk.better(0, 4, 0);
        dueReason(desk, 1, 3, 5);
        desk.better(0, 2, 4);
        desk.withdraw(0, 5);
        desk.better(0, 4, 0);
        dueReason(desk, 1, 3, 6);
    }

    @Says("the one whose first number is the least, of those the second")
    private static void p05OfEqualVerdictsTheLeast() {
        JuryDesk desk = desk(3, 1, 2, 0, 1, 0, 1, 1, 2);
        desk.better(0, 2, 0);
        dueReason(desk, 2, 1);
        desk.withdraw(0, 1);
        desk.withdraw(0, 2);
        desk.better(0, 2, 0);
        dueReason(desk, 3, 4);
    }

    @Says("The i-th (from 0) of these verdicts")
    private static void p05TheLastNumberIsTold() {
        JuryDesk desk = desk(3);
        for (int v = 1; v <= 399; v++) {
            desk.better(0, 0, 1);
        }
        desk.better(0, 1, 2);
        desk.better(0, 2, 0);
        dueReason(desk, 1, 400);
    }

    // ---- promise 6

    @Says("A verdict (of scratched entries, too) is withdrawn: true")
    private static void p06OfScratchedEntriesToo() {
        JuryDesk desk = scratched(desk(5, 0, 1, 1, 2, 3, 4), 1, 3, 4);
        due("the lower one scratched", desk.withdraw(0, 1), true);
        due("the upper one scratched", desk.withdraw(0, 2), true);
        due("both scratched", desk.withdraw(0, 3), true);
        due("again", desk.withdraw(0, 3), false);
    }

    @Says("false when there is none such")
    private static void p06NoneSuch() {
        JuryDesk desk = desk(3, 0, 1, 1, 2);
        for (int v : new int[] {0, -1, 3, 4, 399, 400, 401, Integer.MIN_VALUE, Integer.MAX_VALUE}) {
            due("withdraw(0, " + v + ")", desk.withdraw(0, v), false);
        }
        due("none at all", desk(3).withdraw(0, 1), false);
        for (int h : NO_HEAT) {
            due("withdraw(" + h + ", 1)", desk.withdraw(h, 1), false);
        }
        due("withdraw(1, 1)", desk.withdraw(1, 1), false);
        due("count(0, 2)", desk.count(0, 2), 2);
    }

    @Says("false when there is none such")
    private static void p06RefusedVerdictsAreNone() {
        JuryDesk desk = desk(2, 0, 1);
        desk.better(0, 1, 0);
        desk.better(0, 0, 2);
        due("withdraw(0, 2)", desk.withdraw(0, 2), false);
        due("withdraw(0, 0)", desk.withdraw(0, 0), false);
        due("withdraw(0, -1)", desk.withdraw(0, -1), false);
    }

    @Says("false when there is none such, or it is withdrawn")
    private static void p06OnlyOnce() {
        JuryDesk desk = desk(3, 0, 1, 0, 1, 1, 2);
        due("first", desk.withdraw(0, 1), true);
        due("again", desk.withdraw(0, 1), false);
        due("the equal one holds", desk.settled(0, 0, 1), true);
        due("the last", desk.withdraw(0, 3), true);
        due("again", desk.withdraw(0, 3), false);
        due("in force", desk.count(0, 2), 1);
        desk.better(0, 0, 1);
        due("again, after one more", desk.withdraw(0, 1), false);
    }

    @Says("A verdict (of scratched entries, too) is withdrawn")
    private static void p06TheFirstAndTheLastOf400() {
        JuryDesk desk = full();
        due("withdraw(0, 400)", desk.withdraw(0, 400), true);
        due("withdraw(0, 1)", desk.withdraw(0, 1), true);
        due("withdraw(0, 401)", desk.withdraw(0, 401), false);
        due("withdraw(0, 0)", desk.withdraw(0, 0), false);
        due("in force", desk.count(0, 2), 398);
    }

    @Says("A verdict (of scratched entries, too) is withdrawn")
    private static void p06AllWithdrawnIsLikeNone() {
        dueSame("all withdrawn", desk -> makeN(desk, 0),
            desk -> {
                desk.withdraw(0, 1);
                desk.withdraw(0, 3);
                desk.withdraw(0, 2);
            },
            desk -> {
                desk.heat(0, 4);
                giveRow(desk, 1, 0, 3, 2);
                desk.better(0, 0, 1);
                desk.better(0, 0, 1);
                desk.better(0, 0, 1);
                desk.withdraw(0, 1);
                desk.withdraw(0, 2);
                desk.withdraw(0, 3);
            });
    }

    // ---- promise 7

    @Says("An entry is scratched, its verdicts are in force no more: true")
    private static void p07ItsVerdictsAreInForceNoMore() {
        JuryDesk desk = ladder(3);
        due("scratch(0, 1)", desk.scratch(0, 1), true);
        dueCounts(desk, 2, 2, 0, 0);
        due("settled(0, 0, 2)", desk.settled(0, 0, 2), false);
        due("orders(0)", desk.orders(0), 2);
    }

    @Says("false when it is not there")
    private static void p07NotThere() {
        JuryDesk desk = desk(5);
        for (int a : NO_ENTRY) {
            due("scratch(0, " + a + ")", desk.scratch(0, a), false);
        }
        for (int a = 5; a <= 15; a++) {
            due("scratch(0, " + a + ")", desk.scratch(0, a), false);
        }
        for (int h : NO_HEAT) {
            due("scratch(" + h + ", 0)", desk.scratch(h, 0), false);
        }
        due("scratch(1, 0)", desk.scratch(1, 0), false);
        due("count(0, 0)", desk.count(0, 0), 5);
    }

    @Says("false when it is not there, scratched, or the last one")
    private static void p07ScratchedOnlyOnce() {
        JuryDesk desk = desk(3);
        due("first", desk.scratch(0, 0), true);
        due("again", desk.scratch(0, 0), false);
        due("count(0, 0)", desk.count(0, 0), 2);
        due("orders(0)", desk.orders(0), 2);
    }

    @Says("or the last one")
    private static void p07TheLastOneStays() {
        due("the only one", desk(1).scratch(0, 0), false);
        for (int last = 0; last <= 15; last++) {
            JuryDesk desk = desk(16);
            for (int a = 0; a <= 15; a++) {
                if (a != last) {
                    due("scratch(0, " + a + ")", desk.scratch(0, a), true);
                }
            }
            due("scratch(0, " + last + ")", desk.scratch(0, last), false);
            due("orders(0)", desk.orders(0), 1);
            due("order(0, 0, 1)", desk.order(0, 0, 1), last);
        }
    }

    @Says("or the last one")
    private static void p07TheLastOneIsNotThatWithTheGreatestNumber() {
        JuryDesk desk = desk(16);
        due("scratch(0, 15)", desk.scratch(0, 15), true);
        JuryDesk two = desk(2);
        due("scratch(0, 1)", two.scratch(0, 1), true);
        due("scratch(0, 0)", two.scratch(0, 0), false);
    }

    // ---- promise 8

    @Says("Whether a is settled above b.")
    private static void p08NotThereOrScratchedIsNotSettled() {
        JuryDesk desk = ladder(5);
        for (int x : NO_ENTRY) {
            due("settled(0, " + x + ", 4)", desk.settled(0, x, 4), false);
            due("settled(0, 0, " + x + ")", desk.settled(0, 0, x), false);
            due("settled(0, " + x + ", " + x + ")", desk.settled(0, x, x), false);
        }
        due("settled(0, 0, 5)", desk.settled(0, 0, 5), false);
        desk.scratch(0, 0);
        due("settled(0, 0, 4)", desk.settled(0, 0, 4), false);
        desk.scratch(0, 4);
        due("settled(0, 3, 4)", desk.settled(0, 3, 4), false);
        due("settled(0, 1, 3)", desk.settled(0, 1, 3), true);
    }

    @Says("Whether a is settled above b.")
    private static void p08NoSuchHeatSettlesNothing() {
        JuryDesk desk = ladder(3);
        for (int h : NO_HEAT) {
            due("settled(" + h + ", 0, 1)", desk.settled(h, 0, 1), false);
        }
        due("settled(1, 0, 1)", desk.settled(1, 0, 1), false);
    }

    // ---- promise 9

    @Says("and no entry is settled below a and above b")
    private static void p09AVerdictWithOneBetweenIsNotDirect() {
        JuryDesk desk = desk(3, 0, 2);
        due("direct(0, 0, 2)", desk.direct(0, 0, 2), true);
        desk.better(0, 0, 1);
        due("one below a only", desk.direct(0, 0, 2), true);
        desk.better(0, 1, 2);
        due("one between", desk.direct(0, 0, 2), false);
        desk.withdraw(0, 2);
        due("one above b only", desk.direct(0, 0, 2), true);
        desk.better(0, 0, 1);
        desk.scratch(0, 1);
        due("the one between scratched", desk.direct(0, 0, 2), true);
    }

    @Says("and no entry is settled below a and above b")
    private static void p09OneBetweenOverLongWays() {
        JuryDesk desk = ladder(16);
        for (int b = 1; b <= 15; b++) {
            due("direct(0, 0, " + b + ")", desk.direct(0, 0, b), b == 1);
            due("direct(0, " + (b - 1) + ", " + b + ")", desk.direct(0, b - 1, b), true);
        }
    }

    @Says("and no entry is settled below a and above b")
    private static void p09EachEntryMayStandBetween() {
        for (int between = 0; between < 16; between++) {
            int a = (between + 1) % 16;
            int b = (between + 2) % 16;
            JuryDesk desk = desk(16, a, b);
            due("without " + between, desk.direct(0, a, b), true);
            desk.better(0, a, between);
            desk.better(0, between, b);
            due("with " + between, desk.direct(0, a, b), false);
            due("above " + between, desk.direct(0, a, between), true);
            due("below " + between, desk.direct(0, between, b), true);
        }
    }

    @Says("Whether a is settled above b")
    private static void p09NotSettledIsNotDirect() {
        JuryDesk desk = desk(5, 0, 1);
        due("the other way", desk.direct(0, 1, 0), false);
        due("itself", desk.direct(0, 0, 0), false);
        due("open", desk.direct(0, 0, 2), false);
        for (int x : NO_ENTRY) {
            due("direct(0, " + x + ", 1)", desk.direct(0, x, 1), false);
            due("direct(0, 0, " + x + ")", desk.direct(0, 0, x), false);
        }
        for (int h : NO_HEAT) {
            due("direct(" + h + ", 0, 1)", desk.direct(h, 0, 1), false);
        }
        desk.scratch(0, 0);
        due("scratched", desk.direct(0, 0, 1), false);
    }

    // ---- promise 10

    @Says("0 for no such heat")
    private static void p10NoSuchHeat() {
        JuryDesk desk = desk(3);
        due("orders(1)", desk.orders(1), 0);
        for (int h : NO_HEAT) {
            due("orders(" + h + ")", desk.orders(h), 0);
        }
    }

    @Says("How many orders there are")
    private static void p10FromOneToAllOfSixteen() {
        due("one entry", desk(1).orders(0), 1);
        due("all settled", ladder(16).orders(0), 1);
        due("none settled", desk(16).orders(0), FACTORIAL_16);
        due("one pair settled", desk(16, 15, 0).orders(0), FACTORIAL_16 / 2);
        due("one scratched", scratched(desk(16), 7).orders(0), FACTORIAL_15);
    }

    @Says("How many orders there are")
    private static void p10MoreThanAnIntHolds() {
        long factorial = 1;
        for (int n = 1; n <= 16; n++) {
            factorial *= n;
            due("orders of " + n, desk(n).orders(0), factorial);
        }
    }

    // ---- promise 11

    @Says("In how many of them a stands at rank r.")
    private static void p11NoRankNoOrders() {
        JuryDesk desk = desk(5);
        for (int r : NO_RANK) {
            due("atRank(0, 0, " + r + ")", desk.atRank(0, 0, r), 0);
        }
        for (int r = 6; r <= 16; r++) {
            due("atRank(0, 0, " + r + ")", desk.atRank(0, 0, r), 0);
        }
        due("atRank(0, 0, 1)", desk.atRank(0, 0, 1), 24);
        due("atRank(0, 4, 5)", desk.atRank(0, 4, 5), 24);
        // A rank that would be another entry's, were they held in one row without a look.
        due("atRank(0, 0, 17)", ladder(5).atRank(0, 0, 17), 0);
        due("atRank(0, 1, 0)", scratched(desk(2), 1).atRank(0, 1, 0), 0);
    }

    @Says("In how many of them a stands at rank r.")
    private static void p11NoEntryNoOrders() {
        JuryDesk desk = desk(5);
        for (int a : NO_ENTRY) {
            due("atRank(0, " + a + ", 1)", desk.atRank(0, a, 1), 0);
        }
        for (int a = 5; a <= 15; a++) {
            due("atRank(0, " + a + ", 1)", desk.atRank(0, a, 1), 0);
        }
        for (int h : NO_HEAT) {
            due("atRank(" + h + ", 0, 1)", desk.atRank(h, 0, 1), 0);
        }
        due("atRank(1, 0, 1)", desk.atRank(1, 0, 1), 0);
    }

    @Says("In how many of them a stands at rank r.")
    private static void p11ScratchedEntriesStandNowhere() {
        JuryDesk desk = ladder(3);
        due("atRank(0, 0, 1)", desk.atRank(0, 0, 1), 1);
        desk.scratch(0, 0);
        for (int r = 0; r <= 4; r++) {
            due("atRank(0, 0, " + r + ")", desk.atRank(0, 0, r), 0);
        }
        due("atRank(0, 1, 1)", desk.atRank(0, 1, 1), 1);
        due("atRank(0, 2, 2)", desk.atRank(0, 2, 2), 1);
        due("atRank(0, 2, 3), no rank now", desk.atRank(0, 2, 3), 0);
    }

    @Says("In how many of them a stands at rank r.")
    private static void p11FirstAndLastOfSixteen() {
        JuryDesk desk = desk(16, 0, 15);
        due("the upper one first", desk.atRank(0, 0, 1), FACTORIAL_15);
        due("the upper one last", desk.atRank(0, 0, 16), 0);
        due("the lower one first", desk.atRank(0, 15, 1), 0);
        due("the lower one last", desk.atRank(0, 15, 16), FACTORIAL_15);
        due("another one last", desk.atRank(0, 7, 16), FACTORIAL_15 / 2);
    }

    // ---- promise 12

    @Says("0 when they are the same")
    private static void p12TheSame() {
        JuryDesk desk = desk(16);
        for (int a = 0; a <= 15; a++) {
            due("before(0, " + a + ", " + a + ")", desk.before(0, a, a), 0);
        }
        due("the only one", desk(1).before(0, 0, 0), 0);
    }

    @Says("or one is not there or scratched")
    private static void p12NotThere() {
        JuryDesk desk = desk(5);
        for (int x : NO_ENTRY) {
            due("before(0, " + x + ", 0)", desk.before(0, x, 0), 0);
            due("before(0, 0, " + x + ")", desk.before(0, 0, x), 0);
            due("before(0, " + x + ", " + x + ")", desk.before(0, x, x), 0);
        }
        for (int x = 5; x <= 15; x++) {
            due("before(0, " + x + ", 0)", desk.before(0, x, 0), 0);
            due("before(0, 0, " + x + ")", desk.before(0, 0, x), 0);
        }
        for (int h : NO_HEAT) {
            due("before(" + h + ", 0, 1)", desk.before(h, 0, 1), 0);
        }
        due("before(1, 0, 1)", desk.before(1, 0, 1), 0);
    }

    @Says("or one is not there or scratched")
    private static void p12Scratched() {
        JuryDesk desk = ladder(3);
        due("before(0, 0, 1)", desk.before(0, 0, 1), 1);
        due("before(0, 1, 2)", desk.before(0, 1, 2), 1);
        desk.scratch(0, 1);
        due("before(0, 0, 1)", desk.before(0, 0, 1), 0);
        due("before(0, 1, 0)", desk.before(0, 1, 0), 0);
        due("before(0, 1, 2)", desk.before(0, 1, 2), 0);
        due("before(0, 2, 1)", desk.before(0, 2, 1), 0);
        due("before(0, 0, 2)", desk.before(0, 0, 2), 1);
        due("before(0, 2, 0)", desk.before(0, 2, 0), 1);
    }

    @Says("In how many a stands ahead of b")
    private static void p12AllOrNoneOfSettledPairs() {
        JuryDesk desk = desk(16, 15, 0, 3, 9);
        due("settled above", desk.before(0, 15, 0), FACTORIAL_16 / 4);
        due("settled below", desk.before(0, 0, 15), 0);
        due("settled above", desk.before(0, 3, 9), FACTORIAL_16 / 4);
        due("settled below", desk.before(0, 9, 3), 0);
        due("open", desk.before(0, 7, 8), FACTORIAL_16 / 8);
        due("open", desk.before(0, 8, 7), FACTORIAL_16 / 8);
    }

    // ---- promise 13

    @Says("The mean of the ranks of a over all orders")
    private static void p13TheMeanIsOverAllOrders() {
        // The orders are 0123, 0132, 1023, 1032 and 1302.
        JuryDesk desk = letterN();
        dueMean(desk, 0, 1 + 1 + 2 + 2 + 3, 5);
        dueMean(desk, 1, 2 + 2 + 1 + 1 + 1, 5);
        dueMean(desk, 2, 3 + 4 + 3 + 4 + 4, 5);
        dueMean(desk, 3, 4 + 3 + 4 + 3 + 2, 5);
    }

    @Says("The mean of the ranks of a over all orders")
    private static void p13TheMeanIsThatOfTheRanksTold() {
        JuryDesk desk = desk(16, 0, 5, 5, 7, 3, 7, 2, 9, 9, 11, 14, 2, 8, 15, 1, 8);
        scratched(desk, 9, 12);
        for (int a = 0; a < 16; a++) {
            long sum = 0;
            for (int r = 1; r <= 16; r++) {
                sum += r * desk.atRank(0, a, r);
            }
            long numerator = desk.meanRank(0, a, true);
            long denominator = desk.meanRank(0, a, false);
            boolean there = a != 9 && a != 12;
            due("mean of " + a, there ? sum / (desk.orders(0) / denominator) : 0, numerator);
            due("orders are a multiple of " + denominator, there ? desk.orders(0) % denominator : 0, 0);
        }
    }

    @Says("in lowest terms: its numerator, or its denominator")
    private static void p13LowestTerms() {
        dueMean(desk(16), 15, 17, 2);
        dueMean(desk(1), 0, 1, 1);
        dueMean(desk(3), 1, 2, 1);
        dueMean(ladder(16), 15, 16, 1);
        dueMean(letterN(), 0, 9, 5);
        // Of the twelve orders of 0 above 1 with two more, 0 stands at a mean of 20 / 12.
        dueMean(desk(4, 0, 1), 0, 5, 3);
        dueMean(desk(16, 0, 1), 0, 17, 3);
        dueMean(desk(16, 0, 1), 1, 34, 3);
    }

    @Says("0 when a is not there or scratched")
    private static void p13NotThere() {
        JuryDesk desk = desk(5);
        for (int a : NO_ENTRY) {
            dueMean(desk, a, 0, 0);
        }
        for (int a = 5; a <= 15; a++) {
            dueMean(desk, a, 0, 0);
        }
        for (int h : NO_HEAT) {
            due("meanRank(" + h + ", 0, true)", desk.meanRank(h, 0, true), 0);
            due("meanRank(" + h + ", 0, false)", desk.meanRank(h, 0, false), 0);
        }
        due("meanRank(1, 0, false)", desk.meanRank(1, 0, false), 0);
    }

    @Says("0 when a is not there or scratched")
    private static void p13Scratched() {
        JuryDesk desk = desk(3);
        dueMean(desk, 0, 2, 1);
        desk.scratch(0, 0);
        dueMean(desk, 0, 0, 0);
        dueMean(desk, 1, 3, 2);
        desk.scratch(0, 1);
        dueMean(desk, 2, 1, 1);
    }

    // ---- promise 14

    @Says("A fraction in lowest terms")
    private static void p14LowestTerms() {
        dueChance(6, 4, 3, 2);
        dueChance(4, 6, 2, 3);
        dueChance(7, 7, 1, 1);
        dueChance(1, 1, 1, 1);
        dueChance(14, 7, 2, 1);
        dueChance(7, 14, 1, 2);
        dueChance(7, 15, 7, 15);
    }

    @Says("its numerator, or its denominator")
    private static void p14NumeratorOrDenominator() {
        JuryDesk desk = new JuryDesk();
        due("denominator of 84 over 36", desk.chance(84, 36, false), 3);
        due("numerator of 84 over 36", desk.chance(84, 36, true), 7);
        due("numerator of 36 over 84", desk.chance(36, 84, true), 3);
        due("denominator of 36 over 84", desk.chance(36, 84, false), 7);
    }

    @Says("(0 as 0 over 1)")
    private static void p14ZeroIsZeroOverOne() {
        dueChance(0, 1, 0, 1);
        dueChance(0, 2, 0, 1);
        dueChance(0, Long.MAX_VALUE, 0, 1);
    }

    @Says("A fraction in lowest terms")
    private static void p14TheGreatestNumbers() {
        long most = Long.MAX_VALUE;
        dueChance(most, most, 1, 1);
        dueChance(most, 1, most, 1);
        dueChance(1, most, 1, most);
        dueChance(most, most - 1, most, most - 1);
        dueChance(most, 7, most / 7, 1);
        dueChance(most / 7 * 2, most, 2, 7);
        dueChance(1L << 62, 1L << 61, 2, 1);
        dueChance(1L << 62, 1L << 31, 1L << 31, 1);
        // Neighbours among Fibonacci's numbers take the most divisions of all.
        dueChance(7540113804746346429L, 4660046610375530309L, 7540113804746346429L, 4660046610375530309L);
        dueChance(4660046610375530309L, 7540113804746346429L, 4660046610375530309L, 7540113804746346429L);
    }

    @Says("IllegalArgumentException when num is below 0")
    private static void p14NumBelowZeroIsRefused() {
        JuryDesk desk = new JuryDesk();
        for (long num : new long[] {-1, -2, Integer.MIN_VALUE, Long.MIN_VALUE, Long.MIN_VALUE + 1}) {
            dueRefused("chance(" + num + ", 1, true)", () -> desk.chance(num, 1, true));
            dueRefused("chance(" + num + ", 6, false)", () -> desk.chance(num, 6, false));
            dueRefused("chance(" + num + ", 0, false)", () -> desk.chance(num, 0, false));
            dueRefused("chance(" + num + ", -1, true)", () -> desk.chance(num, -1, true));
        }
    }

    @Says("or den below 1")
    private static void p14DenBelowOneIsRefused() {
        JuryDesk desk = new JuryDesk();
        for (long den : new long[] {0, -1, Integer.MIN_VALUE, Long.MIN_VALUE, Long.MIN_VALUE + 1}) {
            dueRefused("chance(0, " + den + ", true)", () -> desk.chance(0, den, true));
            dueRefused("chance(1, " + den + ", false)", () -> desk.chance(1, den, false));
        }
    }

    // ---- promise 15

    @Says("NONE when there is none")
    private static void p15NoSuchOrder() {
        JuryDesk desk = letterN();
        for (long n : new long[] {-1, 5, 6, 1L << 32, 1L << 63, Long.MAX_VALUE}) {
            dueOrder(desk, n, NONE, NONE, NONE, NONE);
        }
        dueOrder(desk, 4, 1, 3, 0, 2);
        dueOrder(ladder(3), 1, NONE, NONE, NONE);
    }

    @Says("NONE when there is none")
    private static void p15NoSuchRank() {
        JuryDesk desk = letterN();
        for (int r : NO_RANK) {
            due("order(0, 0, " + r + ")", desk.order(0, 0, r), NONE);
        }
        for (int r = 5; r <= 16; r++) {
            due("order(0, 0, " + r + ")", desk.order(0, 0, r), NONE);
        }
        desk.scratch(0, 0);
        due("the last rank now", desk.order(0, 0, 3), 3);
        due("no rank now", desk.order(0, 0, 4), NONE);
    }

    @Says("NONE when there is none")
    private static void p15NoSuchHeat() {
        JuryDesk desk = desk(3);
        due("order(1, 0, 1)", desk.order(1, 0, 1), NONE);
        for (int h : NO_HEAT) {
            due("order(" + h + ", 0, 1)", desk.order(h, 0, 1), NONE);
        }
    }

    @Says("The entry at rank r of order n")
    private static void p15TheFirstAndTheLastOfAll() {
        JuryDesk desk = desk(16);
        dueOrder(desk, 0, 0, 1, 2, 3, 4, 5, 6, 7, 8, 9, 10, 11, 12, 13, 14, 15);
        dueOrder(desk, 1, 0, 1, 2, 3, 4, 5, 6, 7, 8, 9, 10, 11, 12, 13, 15, 14);
        dueOrder(desk, FACTORIAL_16 - 1, 15, 14, 13, 12, 11, 10, 9, 8, 7, 6, 5, 4, 3, 2, 1, 0);
        dueOrder(desk, FACTORIAL_16, NONE, NONE);
        // More than an int holds, on both sides of where the first entry changes.
        dueOrder(desk, FACTORIAL_15 - 1, 0, 15, 14, 13);
        dueOrder(desk, FACTORIAL_15, 1, 0, 2, 3);
    }

    // ---- promise 16

    @Says("(at first NONE at each rank)")
    private static void p16NothingAtFirst() {
        JuryDesk desk = new JuryDesk();
        for (int r = 1; r <= 16; r++) {
            due("give(" + r + ", NONE)", desk.give(r, NONE), NONE);
        }
    }

    @Says("what stood there; NONE for nothing")
    private static void p16WhatStoodThere() {
        JuryDesk desk = new JuryDesk();
        for (int r : new int[] {1, 8, 16}) {
            due("first", desk.give(r, 0), NONE);
            due("then", desk.give(r, 15), 0);
            due("the same again", desk.give(r, 15), 15);
            due("taken away", desk.give(r, NONE), 15);
            due("nothing", desk.give(r, 0), NONE);
            due("other ranks", desk.give(9, NONE), NONE);
        }
    }

    @Says("of the one row that numberOf asks for, of whatever heat")
    private static void p16OneRowForAllHeats() {
        JuryDesk desk = new JuryDesk();
        due("without a heat", desk.give(1, 1), NONE);
        desk.heat(0, 2);
        due("after heat", desk.give(2, 0), NONE);
        desk.heat(11, 2);
        due("numberOf(0)", desk.numberOf(0), 1);
        due("numberOf(11)", desk.numberOf(11), 1);
        desk.heat(0, 2);
        desk.scratch(11, 1);
        due("it stays", desk.give(1, 1), 1);
        due("numberOf(0)", desk.numberOf(0), 1);
    }

    @Says("Entry a is put at rank r")
    private static void p16EntriesNeedNotBeThere() {
        JuryDesk desk = scratched(desk(3), 2);
        due("scratched", desk.give(1, 2), NONE);
        due("not there", desk.give(2, 15), NONE);
        due("twice", desk.give(3, 15), NONE);
        due("rank behind the last", desk.give(16, 0), NONE);
        due("it stands there", desk.give(2, 0), 15);
    }

    @Says("Entry a is put at rank r (1 .. 16)")
    private static void p16EachEntryAtEachRank() {
        JuryDesk desk = new JuryDesk();
        for (int r = 1; r <= 16; r++) {
            int stood = NONE;
            for (int a = 0; a <= 15; a++) {
                due("give(" + r + ", " + a + ")", desk.give(r, a), stood);
                stood = a;
            }
        }
        for (int r = 1; r <= 16; r++) {
            due("give(" + r + ", NONE)", desk.give(r, NONE), 15);
        }
    }

    @Says("IllegalArgumentException when r is not so")
    private static void p16NoSuchRankIsRefused() {
        JuryDesk desk = new JuryDesk();
        for (int r : NO_RANK) {
            dueRefused("give(" + r + ", 0)", () -> desk.give(r, 0));
            dueRefused("give(" + r + ", NONE)", () -> desk.give(r, NONE));
            dueRefused("give(" + r + ", 16)", () -> desk.give(r, 16));
        }
        for (int r = 1; r <= 16; r++) {
            due("nothing is put", desk.give(r, 0), NONE);
        }
    }

    @Says("or a not NONE .. 15")
    private static void p16NoSuchEntryIsRefused() {
        JuryDesk desk = new JuryDesk();
        desk.give(1, 7);
        for (int a : new int[] {-2, -3, 16, 17, Integer.MIN_VALUE, Integer.MAX_VALUE}) {
            dueRefused("give(1, " + a + ")", () -> desk.give(1, a));
            dueRefused("give(16, " + a + ")", () -> desk.give(16, a));
        }
        due("it stays", desk.give(1, NONE), 7);
        due("nothing is put", desk.give(16, NONE), NONE);
    }

    // ---- promise 17

    @Says("(nothing behind them matters)")
    private static void p17NothingBehindMatters() {
        JuryDesk desk = letterN();
        giveRow(desk, 1, 3, 0, 2);
        due("nothing behind", desk.numberOf(0), 4);
        for (int a : new int[] {0, 2, 4, 15, NONE}) {
            desk.give(5, a);
            desk.give(16, a);
            due(a + " behind", desk.numberOf(0), 4);
        }
        desk.scratch(0, 2);
        due("a scratched one behind", desk.numberOf(0), 2);
    }

    @Says("NONE when it is none")
    private static void p17TooShort() {
        JuryDesk desk = desk(3);
        due("empty", desk.numberOf(0), NONE);
        dueNumber(desk, NONE, 0);
        dueNumber(desk, NONE, 0, 1);
        dueNumber(desk, 0, 0, 1, 2);
        dueNumber(desk, NONE, NONE, 1, 2);
        dueNumber(desk, NONE, 0, NONE, 2);
        dueNumber(desk, NONE, 0, NONE, 1, 2);
    }

    @Says("NONE when it is none")
    private static void p17TwiceOrNotThereOrScratched() {
        JuryDesk desk = desk(3);
        dueNumber(desk, NONE, 0, 0, 1);
        dueNumber(desk, NONE, 0, 1, 1);
        dueNumber(desk, NONE, 0, 1, 3);
        dueNumber(desk, NONE, 15, 1, 0);
        dueNumber(desk, 5, 2, 1, 0);
        desk.scratch(0, 1);
        due("scratched", desk.numberOf(0), NONE);
        dueNumber(desk, 1, 2, 0, 1);
    }

    @Says("NONE when it is none")
    private static void p17AgainstWhatIsSettled() {
        JuryDesk desk = desk(3, 2, 0);
        dueNumber(desk, NONE, 0, 1, 2);
        dueNumber(desk, 1, 2, 0, 1);
        desk.withdraw(0, 1);
        dueNumber(desk, 0, 0, 1, 2);
    }

    @Says("NONE when it is none")
    private static void p17NoSuchHeat() {
        JuryDesk desk = desk(1);
        giveRow(desk, 0);
        due("numberOf(0)", desk.numberOf(0), 0);
        due("numberOf(1)", desk.numberOf(1), NONE);
        for (int h : NO_HEAT) {
            due("numberOf(" + h + ")", desk.numberOf(h), NONE);
        }
    }

    @Says("The number of the order whose entries stand at ranks 1, 2, .. of the row")
    private static void p17TheFirstAndTheLastOfAll() {
        JuryDesk desk = desk(16);
        dueNumber(desk, FACTORIAL_16 - 1, 15, 14, 13, 12, 11, 10, 9, 8, 7, 6, 5, 4, 3, 2, 1, 0);
        dueNumber(desk, FACTORIAL_15, 1, 0, 2, 3, 4, 5, 6, 7, 8, 9, 10, 11, 12, 13, 14, 15);
        dueNumber(desk, 0, 0, 1, 2, 3, 4, 5, 6, 7, 8, 9, 10, 11, 12, 13, 14, 15);
        dueNumber(desk, NONE, 0, 1, 2, 3, 4, 5, 6, 7, 8, 9, 10, 11, 12, 13, 14, NONE);
        dueNumber(desk, NONE, 0, 1, 2, 3, 4, 5, 6, 7, 8, 9, 10, 11, 12, 13, 14, 14);
    }

    // ---- promise 18

    @Says("The pair of entries")
    private static void p18OneOpenPairThatNoOtherOneComesBefore() {
        JuryDesk desk = scratched(desk(16, 0, 5, 5, 7, 3, 7, 2, 9, 9, 11, 14, 2, 8, 15, 1, 8, 6, 10), 9, 0, 4);
        int lower = NONE;
        int upper = NONE;
        long least = Long.MAX_VALUE;
        for (int a = 0; a < 16; a++) {
            for (int b = a + 1; b < 16; b++) {
                long ahead = desk.before(0, a, b);
                long behind = desk.before(0, b, a);
                boolean open = ahead > 0 && behind > 0;
                if (open && Math.abs(ahead - behind) < least) {
                    least = Math.abs(ahead - behind);
                    lower = a;
                    upper = b;
                }
            }
        }
        dueAsk(desk, lower, upper);
        due("the lower one is there", desk.better(0, lower, lower), 0);
        due("the upper one is there", desk.better(0, upper, upper), 0);
        due("none is settled", desk.settled(0, lower, upper) || desk.settled(0, upper, lower), false);
    }

    @Says("NONE when all is settled")
    private static void p18AllSettled() {
        dueAsk(ladder(16), NONE, NONE);
        dueAsk(desk(1), NONE, NONE);
        dueAsk(desk(2, 1, 0), NONE, NONE);
        dueAsk(desk(2), 0, 1);
        dueAsk(scratched(desk(2), 0), NONE, NONE);
        dueAsk(scratched(desk(3, 0, 2), 1), NONE, NONE);
        dueAsk(withdrawn(desk(2, 1, 0), 1), 0, 1);
    }

    @Says("the lower (what = 0) or the upper number (1)")
    private static void p18LowerAndUpperAreNumbersNotRanks() {
        // 2 above 0, and 1: 1 is ahead of 0 in two orders of three, but 0 is the lower number.
        dueAsk(desk(3, 2, 0), 0, 1);
        JuryDesk desk = desk(16);
        for (int a = 0; a < 13; a++) {
            desk.better(0, a, a + 1);
        }
        desk.better(0, 13, 15);
        desk.better(0, 13, 14);
        dueAsk(desk, 14, 15);
        desk.better(0, 15, 14);
        dueAsk(desk, NONE, NONE);
    }

    @Says("or for others")
    private static void p18OthersThanLowerAndUpper() {
        JuryDesk desk = desk(3);
        for (int what : new int[] {-1, 2, 3, 16, Integer.MIN_VALUE, Integer.MAX_VALUE}) {
            due("ask(0, " + what + ")", desk.ask(0, what), NONE);
        }
        for (int h : NO_HEAT) {
            due("ask(" + h + ", 0)", desk.ask(h, 0), NONE);
            due("ask(" + h + ", 1)", desk.ask(h, 1), NONE);
            due("ask(" + h + ", 2)", desk.ask(h, 2), NONE);
        }
    }

    @Says("none settled above the other")
    private static void p18SettledPairsAreNotAsked() {
        // All entries but 2 and 13 stand in one row; these two stand between 1 and 3.
        JuryDesk desk = desk(16);
        int at = NONE;
        for (int a = 0; a < 16; a++) {
            if (a != 2 && a != 13) {
                if (at != NONE) {
                    desk.better(0, at, a);
                }
                at = a;
            }
        }
        for (int open : new int[] {2, 13}) {
            desk.better(0, 1, open);
            desk.better(0, open, 3);
        }
        dueAsk(desk, 2, 13);
    }

    @Says("of which the numbers of orders with the one or the other ahead differ least")
    private static void p18TheEvenestPair() {
        // 0 above 1 above 2, and 3: 0 is ahead of 3 in 3 of 4 orders, 1 in 2, 2 in 1.
        dueAsk(desk(4, 0, 1, 1, 2), 1, 3);
        // 3 above 2 above 1, and 0: the same turned round.
        dueAsk(desk(4, 3, 2, 2, 1), 0, 2);
        // 1 above 2 above 3 above 4 above 5, and 0: only the middle one is even.
        dueAsk(desk(6, 1, 2, 2, 3, 3, 4, 4, 5), 0, 3);
    }

    @Says("of which the numbers of orders with the one or the other ahead differ least")
    private static void p18UnevenEitherWay() {
        // 0 above 1, and 2: each pair is uneven by one of three, once with the lower one ahead
        // more often and once with the upper one.
        dueAsk(desk(3, 0, 1), 0, 2);
        dueAsk(desk(3, 1, 0), 0, 2);
        dueAsk(desk(3, 1, 2), 0, 1);
        dueAsk(desk(3, 2, 1), 0, 1);
        // 0 above 1 above 2 above 3, and 4: 1 and 2 are as uneven, 0 and 3 more so.
        dueAsk(desk(5, 0, 1, 1, 2, 2, 3), 1, 4);
    }

    @Says("of those with the least lower entry, then the least upper one")
    private static void p18TheLeastOfEven() {
        dueAsk(desk(16), 0, 1);
        // 0 above both 1 and 2, and so above all but 3, 4: even pairs are 1 2 and 3 4 only.
        JuryDesk desk = desk(5, 0, 1, 0, 2, 1, 3, 2, 3, 1, 4, 2, 4);
        dueAsk(desk, 1, 2);
        desk.better(0, 2, 1);
        dueAsk(desk, 3, 4);
        // Even pairs are 0 3, 0 4, 1 2, 3 4: the least lower one is 0, not the least upper one 2.
        dueAsk(desk(5, 0, 1, 0, 2, 3, 1, 3, 2, 4, 1, 4, 2), 0, 3);
    }

    // ---- promise 19

    @Says("0 for no such heat")
    private static void p19NoSuchHeat() {
        JuryDesk desk = desk(3);
        due("tie(1)", desk.tie(1), 0);
        for (int h : NO_HEAT) {
            due("tie(" + h + ")", desk.tie(h), 0);
        }
    }

    @Says("How many entries a set has at most, none of which is settled above another one")
    private static void p19FromOneToSixteen() {
        due("one entry", desk(1).tie(0), 1);
        due("all settled", ladder(16).tie(0), 1);
        due("none settled", desk(16).tie(0), 16);
        due("one pair settled", desk(16, 0, 15).tie(0), 15);
        due("scratched", scratched(desk(16), 0, 15).tie(0), 14);
    }

    @Says("none of which is settled above another one")
    private static void p19SettledOverOthersCounts() {
        due("over another one", ladder(3).tie(0), 1);
        due("over a scratched one", scratched(ladder(3), 1).tie(0), 2);
        due("over a withdrawn one", withdrawn(ladder(3), 1).tie(0), 2);
    }

    // ---- promise 20

    @Says("NONE for none")
    private static void p20NoneBehindTheLast() {
        JuryDesk desk = desk(16);
        for (int i = 0; i < 16; i++) {
            due("tieEntry(0, " + i + ")", desk.tieEntry(0, i), i);
        }
        for (int i : NO_ENTRY) {
            due("tieEntry(0, " + i + ")", desk.tieEntry(0, i), NONE);
        }
        JuryDesk narrow = ladder(16);
        due("tieEntry(0, 0)", narrow.tieEntry(0, 0), 0);
        for (int i = 1; i < 16; i++) {
            due("tieEntry(0, " + i + ")", narrow.tieEntry(0, i), NONE);
        }
    }

    @Says("NONE for none")
    private static void p20NoSuchHeat() {
        JuryDesk desk = desk(3);
        due("tieEntry(1, 0)", desk.tieEntry(1, 0), NONE);
        for (int h : NO_HEAT) {
            due("tieEntry(" + h + ", 0)", desk.tieEntry(h, 0), NONE);
        }
    }

    @Says("The i-th entry (from 0, rising) of such a set")
    private static void p20OnlyWidestSets() {
        // 0 alone is least of all, but all widest sets are without it.
        dueTie(desk(4, 0, 1, 0, 2, 0, 3), 1, 2, 3);
        dueTie(desk(4, 3, 0, 3, 1, 3, 2), 0, 1, 2);
        dueTie(desk(16, 15, 0), 0, 1, 2, 3, 4, 5, 6, 7, 8, 9, 10, 11, 12, 13, 14);
        dueTie(desk(16, 0, 15), 0, 1, 2, 3, 4, 5, 6, 7, 8, 9, 10, 11, 12, 13, 14);
    }

    @Says("that with the least first entry")
    private static void p20TheLeastFirstEntry() {
        dueTie(ladder(16), 0);
        // 15 above 14 above .. above 0: the least is at the foot.
        JuryDesk turned = desk(16);
        for (int a = 15; a > 0; a--) {
            turned.better(0, a, a - 1);
        }
        dueTie(turned, 0);
        dueTie(scratched(turned, 0), 1);
        // Two rows, 0 2 and 1 3, with 0 above all of the other one: widest are 12 and 23.
        dueTie(desk(4, 0, 2, 1, 3, 0, 1), 1, 2);
    }

    @Says("of those the least second one, and so on")
    private static void p20TheLeastSecondEntry() {
        // 1 above 3, 2 above 4: with 0 go 12, 14, 23 and 34.
        dueTie(desk(5, 1, 3, 2, 4), 0, 1, 2);
        // 1 is above all others but 0: with 0 goes 2 first, then 4 as 3 is below 2.
        dueTie(desk(5, 1, 2, 1, 3, 1, 4, 2, 3), 0, 2, 4);
    }

    @Says("The i-th entry (from 0, rising) of such a set")
    private static void p20ScratchedEntriesStandInNoTie() {
        dueTie(scratched(desk(4), 0, 2), 1, 3);
        dueTie(scratched(desk(4, 0, 1, 0, 2, 0, 3), 2, 3), 0);
    }

    // ---- promise 21

    @Says("0 for no such heat")
    private static void p21NoSuchHeat() {
        JuryDesk desk = desk(3);
        due("chains(1)", desk.chains(1), 0);
        for (int h : NO_HEAT) {
            due("chains(" + h + ")", desk.chains(h), 0);
        }
    }

    @Says("In how few ROWS all entries go")
    private static void p21FromOneToSixteen() {
        due("one entry", desk(1).chains(0), 1);
        due("all settled", ladder(16).chains(0), 1);
        due("none settled", desk(16).chains(0), 16);
        due("one pair settled", desk(16, 0, 15).chains(0), 15);
        due("scratched", scratched(desk(16), 0, 15).chains(0), 14);
    }

    @Says("in each of which one is settled above the next one")
    private static void p21SettledOverAnEntryOfAnotherRow() {
        // All ways go over 2, so that rows of verdicts alone would be three.
        JuryDesk desk = desk(5, 0, 2, 1, 2, 2, 3, 2, 4);
        due("chains(0)", desk.chains(0), 2);
        due("without 2", scratched(desk, 2).chains(0), 4);
    }

    @Says("In how few ROWS all entries go")
    private static void p21RowsMakeRoomForOneAnother() {
        // Each of these needs an entry to give up the follower that comes first.
        due("two change", desk(4, 0, 2, 0, 3, 1, 2).chains(0), 2);
        due("three change", desk(6, 0, 3, 0, 4, 1, 4, 1, 5, 2, 3).chains(0), 3);
        due("nobody can", desk(5, 0, 2, 3, 1, 0, 4, 2, 1).chains(0), 3);
        due("from the foot up", desk(3, 0, 1, 2, 0).chains(0), 1);
    }

    // ---- promise 22

    @Says("NONE when a is the last one of its row, not there or scratched")
    private static void p22TheLastOneOfItsRow() {
        JuryDesk desk = ladder(16);
        due("follows(0, 14)", desk.follows(0, 14), 15);
        due("follows(0, 15)", desk.follows(0, 15), NONE);
        dueFollowers(desk(3), NONE, NONE, NONE);
        dueFollowers(desk(1), NONE);
    }

    @Says("NONE when a is the last one of its row, not there or scratched")
    private static void p22NotThereOrScratched() {
        JuryDesk desk = ladder(5);
        for (int a : NO_ENTRY) {
            due("follows(0, " + a + ")", desk.follows(0, a), NONE);
        }
        for (int a = 5; a <= 15; a++) {
            due("follows(0, " + a + ")", desk.follows(0, a), NONE);
        }
        for (int h : NO_HEAT) {
            due("follows(" + h + ", 0)", desk.follows(h, 0), NONE);
        }
        desk.scratch(0, 0);
        dueFollowers(desk, NONE, 2, 3, 4, NONE);
    }

    @Says("of all ways with so few rows")
    private static void p22FewRowsGoBeforeLeastFollowers() {
        // With 1 behind 0, entry 3 would need a row of its own.
        dueFollowers(desk(4, 0, 1, 0, 2, 3, 1), 2, NONE, NONE, 1);
    }

    @Says("the one in which entry 0 is followed by the least one")
    private static void p22TheLeastFollowerOfEntryZero() {
        dueFollowers(desk(4, 0, 2, 0, 3, 1, 2, 1, 3), 2, 3, NONE, NONE);
        dueFollowers(desk(3, 0, 2, 0, 1), 1, NONE, NONE);
        // 0 above 2 above 1: only 2 may follow 0, as else 2 has no place in the one row.
        dueFollowers(desk(3, 0, 2, 2, 1), 2, NONE, 1);
    }

    @Says("The entry that follows a in its row")
    private static void p22EntryZeroMayFollow() {
        dueFollowers(desk(2, 1, 0), NONE, 0);
        dueFollowers(desk(3, 0, 1, 2, 0), 1, NONE, 0);
        dueFollowers(desk(16, 15, 0), NONE, NONE, NONE, NONE, NONE, NONE, NONE, NONE,
            NONE, NONE, NONE, NONE, NONE, NONE, NONE, 0);
    }

    @Says("(nothing counts as more than any entry)")
    private static void p22NothingIsMoreThanAnyEntry() {
        dueFollowers(desk(3, 0, 2, 1, 2), 2, NONE, NONE);
        dueFollowers(desk(16, 0, 15, 1, 15), 15, NONE);
        dueFollowers(scratched(desk(3, 0, 2, 1, 2), 0), NONE, 2, NONE);
    }

    @Says("of those entry 1, and so on")
    private static void p22TheLeastFollowersOfTheOthers() {
        dueFollowers(desk(5, 1, 3, 1, 4, 2, 3, 2, 4), NONE, 3, 4, NONE, NONE);
        dueFollowers(desk(5, 0, 2, 1, 2, 2, 3, 2, 4), 2, 3, 4, NONE, NONE);
        dueFollowers(desk(6, 0, 3, 1, 3, 1, 4, 1, 5, 2, 4), 3, 5, 4, NONE, NONE, NONE);
        dueFollowers(desk(5, 0, 2, 3, 1, 0, 4, 2, 1), 2, NONE, 1, NONE, NONE);
    }

    @Says("in each of which one is settled above the next one")
    private static void p22EachEntryFollowsOnlyOne() {
        // What a lesser entry has taken can't be taken again, nor does the lesser one need more.
        dueFollowers(desk(4, 0, 1, 1, 3, 3, 2), 1, 3, NONE, 2);
        dueFollowers(desk(4, 0, 1, 2, 0, 3, 2), 1, NONE, 0, 2);
        dueFollowers(desk(4, 1, 0, 2, 3, 3, 1), NONE, 0, 3, 1);
    }

    // ---- promise 23

    @Says("NONE for others (first)")
    private static void p23OthersAreLookedAtFirst() {
        JuryDesk desk = desk(3);
        for (int what : new int[] {-1, 4, 5, Integer.MIN_VALUE, Integer.MAX_VALUE}) {
            due("count(0, " + what + ")", desk.count(0, what), NONE);
            due("count(1, " + what + "), no such heat", desk.count(1, what), NONE);
            for (int h : NO_HEAT) {
                due("count(" + h + ", " + what + ")", desk.count(h, what), NONE);
            }
        }
    }

    @Says("0 for no such heat")
    private static void p23NoSuchHeat() {
        JuryDesk desk = desk(3, 0, 1);
        for (int what = 0; what <= 3; what++) {
            due("count(1, " + what + ")", desk.count(1, what), 0);
            for (int h : NO_HEAT) {
                due("count(" + h + ", " + what + ")", desk.count(h, what), 0);
            }
        }
    }

    @Says("what = 0 entries that are not scratched")
    private static void p23EntriesFromSixteenToOne() {
        JuryDesk desk = desk(16);
        for (int a = 0; a <= 14; a++) {
            due("count(0, 0)", desk.count(0, 0), 16 - a);
            desk.scratch(0, a);
        }
        due("count(0, 0)", desk.count(0, 0), 1);
        desk.scratch(0, 15);
        due("count(0, 0), the last one", desk.count(0, 0), 1);
    }

    @Says("1 verdicts since it began")
    private static void p23VerdictsSinceItBegan() {
        JuryDesk desk = desk(3);
        due("none", desk.count(0, 1), 0);
        desk.better(0, 0, 1);
        desk.better(0, 1, 0);
        desk.better(0, 0, 3);
        due("refused ones not", desk.count(0, 1), 1);
        desk.withdraw(0, 1);
        due("withdrawn ones too", desk.count(0, 1), 1);
        desk.better(0, 0, 1);
        desk.scratch(0, 0);
        due("those of scratched entries too", desk.count(0, 1), 2);
        desk.heat(0, 3);
        due("anew", desk.count(0, 1), 0);
        due("full", full().count(0, 1), 400);
    }

    @Says("2 verdicts in force")
    private static void p23VerdictsInForce() {
        JuryDesk desk = full();
        due("all", desk.count(0, 2), 400);
        desk.withdraw(0, 400);
        due("without a withdrawn one", desk.count(0, 2), 399);
        desk.scratch(0, 2);
        due("without an entry that has none", desk.count(0, 2), 399);
        desk.scratch(0, 1);
        due("without the lower entry", desk.count(0, 2), 0);
    }

    @Says("3 pairs of which one is settled above the other")
    private static void p23SettledPairs() {
        due("none", desk(16).count(0, 3), 0);
        due("all", ladder(16).count(0, 3), 120);
        due("the same again", desk(2, 0, 1, 0, 1).count(0, 3), 1);
        due("over another one", desk(3, 0, 1, 1, 2).count(0, 3), 3);
        due("over a scratched one", scratched(ladder(3), 1).count(0, 3), 0);
        due("over a withdrawn one", withdrawn(ladder(3), 1).count(0, 3), 1);
    }
}
