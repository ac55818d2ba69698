/** What the tests share: it counts and prints answers that are not as due, and tells all that an object answers. */
final class Check {
    private static int wrong = 0;

    /** A call that is expected to throw. */
    interface Call {
        void make();
    }

    private Check() {
    }

    static void due(String what, long got, long want) {
        if (got != want) {
            wrong++;
            System.out.println(what + " answered " + got + ", due is " + want);
        }
    }

    static void due(String what, String got, String want) {
        if (!got.equals(want)) {
            wrong++;
            System.out.println(what + " answered " + got + ", due is " + want);
        }
    }

    /** The call throws just this exception, and changes nothing that can be asked. */
    static void refused(String what, Pagewright x, Class<? extends RuntimeException> want, Call call) {
        String before = state(x);
        Class<?> got = null;
        try {
            call.make();
        } catch (RuntimeException e) {
            got = e.getClass();
        }
        if (got != want) {
            wrong++;
            System.out.println(what + " threw " + got + ", due is " + want);
        }
        due(what + ": the state behind it", state(x), before);
    }

    static void noSpace(String what, Pagewright x, Call call) {
        refused(what, x, IndexOutOfBoundsException.class, call);
    }

    static void badArgument(String what, Pagewright x, Call call) {
        refused(what, x, IllegalArgumentException.class, call);
    }

    static void badState(String what, Pagewright x, Call call) {
        refused(what, x, IllegalStateException.class, call);
    }

    /** An object with the space 0, all its addresses mapped, and the values stored into the first ones in turn. */
    static Pagewright withSpace(int... values) {
        Pagewright x = new Pagewright();
        x.space(0);
        x.map(0, 0, 32, 3, -1, 0, false, false);
        for (int a = 0; a < values.length; a++) {
            x.store(0, 0, a, values[a]);
        }
        return x;
    }

    /** All that an object answers when it is asked, in one text. */
    static String state(Pagewright x) {
        StringBuilder s = new StringBuilder();
        for (int what = 0; what <= 10; what++) {
            s.append(what).append(':').append(x.count(what)).append(' ');
        }
        for (int list = 0; list <= 1; list++) {
            s.append("list");
            for (int place = 0; place <= 24; place++) {
                s.append(' ').append(x.list(list, place));
            }
        }
        for (int frame = 0; frame < 24; frame++) {
            s.append(" frame").append(frame);
            for (int what = 0; what <= 7; what++) {
                s.append(' ').append(x.frame(frame, what));
            }
        }
        for (int file = 0; file < 3; file++) {
            for (int index = 0; index < 8; index++) {
                s.append(' ').append(x.disk(file, index));
            }
        }
        for (int space = 0; space < 6; space++) {
            space(x, space, s);
        }
        return s.toString();
    }

    private static void space(Pagewright x, int space, StringBuilder s) {
        try {
            x.about(space, 0);
        } catch (IndexOutOfBoundsException e) {
            return;
        }
        s.append(" space").append(space);
        for (int what = 0; what <= 5; what++) {
            s.append(' ').append(x.about(space, what));
        }
        for (int address = 0; address < 32; address++) {
            s.append(" at").append(address);
            for (int what = 0; what <= 5; what++) {
                s.append(' ').append(x.entry(space, address, what));
            }
        }
    }

    static void finish(String test) {
        System.out.println(test + ": " + (wrong == 0 ? "all answers are as due" : wrong + " answers are not as due"));
        if (wrong != 0) {
            System.exit(1);
        }
    }
}
