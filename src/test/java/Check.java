import java.util.Random;
import java.util.function.Supplier;

/**
 * What the tests share: it counts and prints answers that are not as due. No object is asked behind its 512th call,
 * for what it answers then is free: where more is asked, the object is made again, with the same calls.
 */
final class Check {
    /** How many calls an object is good for. */
    static final int CALLS = 512;
    /** What stands for the answer of a call that throws IndexOutOfBoundsException, or another one. */
    static final int NO_SPACE = Integer.MIN_VALUE, THROWN = Integer.MIN_VALUE + 1;

    private static final int ABOUT_SPACE = 6 + 32 * 6;
    private static final int QUESTIONS = 11 + 2 * 25 + 24 * 8 + 24 + 6 * ABOUT_SPACE;
    /** How many calls an object may have had that is given to refused. */
    private static final int MADE_WITH = 160;
    private static final int TAILS = 3;

    private static String words = "";
    private static int wrong = 0;

    interface Call {
        void on(Pagewright x);
    }

    private Check() {
    }

    // ---- the words of the document that the checks behind these are for (SentencesTest looks them up there)

    /** Words of the section "Terms". */
    static void terms(String theirs) {
        words = "Terms: " + theirs;
    }

    /** Words of the section of a promise. */
    static void promise(int number, String theirs) {
        words = "Promise " + number + ": " + theirs;
    }

    // ---- answers

    static void due(String what, long got, long want) {
        if (got != want) {
            report(what + " answered " + got + ", due is " + want);
        }
    }

    static void due(String what, String got, String want) {
        if (!got.equals(want)) {
            report(what + " answered " + got + ", due is " + want);
        }
    }

    private static void report(String text) {
        wrong++;
        System.out.println((words.isEmpty() ? "" : "[" + words + "] ") + text);
    }

    /** The pages of a list, by their frames in its order. */
    static void list(String what, Pagewright x, int list, int... frames) {
        StringBuilder got = new StringBuilder();
        StringBuilder want = new StringBuilder();
        for (int place = 0; place < 24 && x.list(list, place) != Pagewright.NONE; place++) {
            got.append(x.list(list, place)).append(' ');
        }
        for (int frame : frames) {
            want.append(frame).append(' ');
        }
        due(what, got.toString(), want.toString());
    }

    /** An object with the space 0, all its addresses mapped, and the values stored into the first ones in turn. */
    static Pagewright withSpace(int... values) {
        Pagewright x = new Pagewright();
        x.space(0);
        x.map(0, 0, 32, 3, -1, 0, false, false);
        for (int a = 0; a < values.length; a++) {
            x.store(0, 0, a, values[a]);
        }
        return x;
    }

    /**
     * An object in which much has happened: the spaces 0 and 2 live and 1 is dead; there are pages of both kinds,
     * records, messages, a block, limits, what is to be merged and was looked at, and pages that were evicted.
     */
    static Pagewright busy() {
        Pagewright x = new Pagewright();
        x.space(0);
        x.space(1);
        x.space(2);
        x.map(0, 0, 8, 3, -1, 0, false, false);
        x.map(0, 16, 4, 3, 1, 4, true, true);
        x.map(1, 0, 4, 3, -1, 0, false, false);
        x.map(2, 9, 3, 3, 0, 1, false, true);
        for (int a = 0; a < 4; a++) {
            x.store(0, 0, a, 10 * a);
            x.store(1, 1, a, 20000);
            x.store(0, 0, 4 + a, 5000 + a % 2);
        }
        x.read(2, 3);
        x.reclaim(7);
        x.store(0, 2, 9, 300);
        x.load(1, 2, 10);
        for (int a = 0; a < 4; a++) {
            x.load(0, 0, a);
        }
        x.store(1, 0, 16, 5);
        x.join(0, 0);
        x.merge(0, true);
        x.merge(2, true);
        x.scan(3);
        x.adjust(0, 7);
        x.limit(2, 3);
        x.limit(0, 12);
        x.end(1);
        x.unmap(0, 7, 1);
        x.protect(0, 16, 1, 3);
        return x;
    }

    /** The same with six spaces, so that no more can be made. */
    static Pagewright busyWithSix() {
        Pagewright x = busy();
        x.space(1);
        x.space(1);
        x.space(1);
        return x;
    }

    // ---- calls that are refused

    static void noSpace(String what, Pagewright x, Call call) {
        thrown(what, x, IndexOutOfBoundsException.class, call);
    }

    static void badArgument(String what, Pagewright x, Call call) {
        thrown(what, x, IllegalArgumentException.class, call);
    }

    static void badState(String what, Pagewright x, Call call) {
        thrown(what, x, IllegalStateException.class, call);
    }

    private static void thrown(String what, Pagewright x, Class<? extends RuntimeException> want, Call call) {
        Class<?> got = null;
        try {
            call.on(x);
        } catch (RuntimeException e) {
            got = e.getClass();
        }
        if (got != want) {
            report(what + " threw " + got + ", due is " + want);
        }
    }

    /**
     * The call throws just this exception, and changes nothing: all that is asked, and what is answered in runs of
     * further calls, is as without it.
     */
    static void refused(String what, Supplier<Pagewright> made, Class<? extends RuntimeException> want, Call call) {
        Supplier<Pagewright> behind = () -> {
            Pagewright x = made.get();
            thrown(what, x, want, call);
            return x;
        };
        same(what, state(behind, MADE_WITH + 1), state(made, MADE_WITH + 1));
        for (int seed = 0; seed < TAILS; seed++) {
            due(what + ", answers behind it", tail(behind.get(), seed), tail(made.get(), seed));
        }
    }

    static void noSpace(String what, Supplier<Pagewright> made, Call call) {
        refused(what, made, IndexOutOfBoundsException.class, call);
    }

    static void badArgument(String what, Supplier<Pagewright> made, Call call) {
        refused(what, made, IllegalArgumentException.class, call);
    }

    static void badState(String what, Supplier<Pagewright> made, Call call) {
        refused(what, made, IllegalStateException.class, call);
    }

    /** What further calls answer that depend on what cannot be asked: limits, lists to be merged, what grows. */
    private static String tail(Pagewright x, int seed) {
        Random random = new Random(seed);
        StringBuilder answers = new StringBuilder();
        for (int i = 0; i < CALLS - MADE_WITH - 2; i++) {
            int a;
            try {
                a = some(x, random.nextInt(12), random);
            } catch (RuntimeException e) {
                a = e instanceof IndexOutOfBoundsException ? NO_SPACE : THROWN;
            }
            answers.append(a).append(' ');
        }
        return answers.toString();
    }

    private static int some(Pagewright x, int which, Random random) {
        int space = random.nextInt(3);
        int address = random.nextInt(32);
        int value = random.nextInt(3) * 5000 + random.nextInt(3);
        switch (which) {
            case 0:
            case 1:
                return x.load(random.nextInt(2), space, address);
            case 2:
            case 3:
                return x.store(random.nextInt(2), space, address, value);
            case 4:
                return x.count(random.nextInt(11));
            case 5:
                return x.scan(1 + random.nextInt(40));
            case 6:
                return x.reclaim(1 + random.nextInt(4));
            case 7:
                return x.read(random.nextInt(3), random.nextInt(8));
            case 8:
                return x.map(space, address, 1, 3, -1, 0, false, false);
            case 9:
                return x.about(space, random.nextInt(6));
            case 10:
                return x.entry(space, address, 1 + random.nextInt(5));
            default:
                return random.nextInt(4) == 0 ? x.space(random.nextInt(3)) : x.list(random.nextInt(2), 0);
        }
    }

    // ---- all that can be asked

    /** All answers of objects that had this many calls as they are made, each of which answers a part. */
    static int[] state(Supplier<Pagewright> made, int calls) {
        int[] answers = new int[QUESTIONS];
        Pagewright x = null;
        int room = 0;
        for (int question = 0; question < QUESTIONS; question++) {
            if (room == 0) {
                x = made.get();
                room = CALLS - calls;
            }
            answers[question] = ask(x, question);
            room--;
        }
        return answers;
    }

    /** Tells whether all is as due; of what is not it prints the first. */
    static boolean same(String what, int[] got, int[] want) {
        for (int question = 0; question < QUESTIONS; question++) {
            if (got[question] != want[question]) {
                due(what + ", then " + name(question), got[question], want[question]);
                return false;
            }
        }
        return true;
    }

    private static int ask(Pagewright x, int question) {
        int n = question;
        if (n < 11) {
            return x.count(n);
        }
        n -= 11;
        if (n < 50) {
            return x.list(n / 25, n % 25);
        }
        n -= 50;
        if (n < 192) {
            return x.frame(n / 8, n % 8);
        }
        n -= 192;
        if (n < 24) {
            return x.disk(n / 8, n % 8);
        }
        n -= 24;
        int space = n / ABOUT_SPACE;
        int of = n % ABOUT_SPACE;
        try {
            return of < 6 ? x.about(space, of) : x.entry(space, (of - 6) / 6, (of - 6) % 6);
        } catch (IndexOutOfBoundsException e) {
            return NO_SPACE;
        }
    }

    private static String name(int question) {
        int n = question;
        if (n < 11) {
            return "count(" + n + ")";
        }
        n -= 11;
        if (n < 50) {
            return "list(" + n / 25 + ", " + n % 25 + ")";
        }
        n -= 50;
        if (n < 192) {
            return "frame(" + n / 8 + ", " + n % 8 + ")";
        }
        n -= 192;
        if (n < 24) {
            return "disk(" + n / 8 + ", " + n % 8 + ")";
        }
        n -= 24;
        int space = n / ABOUT_SPACE;
        int of = n % ABOUT_SPACE;
        return of < 6 ? "about(" + space + ", " + of + ")"
                : "entry(" + space + ", " + (of - 6) / 6 + ", " + (of - 6) % 6 + ")";
    }

    static void finish(String test) {
        System.out.println(test + ": " + (wrong == 0 ? "all answers are as due" : wrong + " answers are not as due"));
        if (wrong != 0) {
            System.exit(1);
        }
    }
}
