/** Counts what was looked at and what was wrong, and ends a test with exit code 1 if anything was. */
final class Check {
    private final String name;
    private int looked;
    private int wrong;

    Check(String name) {
        this.name = name;
    }

    void due(String call, long got, long want) {
        looked++;
        if (got != want) {
            wrong++;
            System.out.println(name + ": " + call + " answered " + got + ", due is " + want);
        }
    }

    void dueThrow(String call, Class<? extends RuntimeException> want, Runnable run) {
        looked++;
        try {
            run.run();
        } catch (RuntimeException e) {
            if (e.getClass() == want) {
                return;
            }
            wrong++;
            System.out.println(name + ": " + call + " threw " + e + ", due is " + want.getName());
            return;
        }
        wrong++;
        System.out.println(name + ": " + call + " threw nothing, due is " + want.getName());
    }

    void end() {
        System.out.println(name + ": " + looked + " looked at, " + wrong + " wrong");
        if (wrong != 0) {
            System.exit(1);
        }
    }

    /** Feeds a text, filled up with blanks to whole calls. */
    static void feed(LightestSack x, String text) {
        StringBuilder full = new StringBuilder(text);
        while (full.length() % 20 != 0) {
            full.append(' ');
        }
        for (int i = 0; i < full.length(); i += 20) {
            x.feed(four(full, i), four(full, i + 4), four(full, i + 8), four(full, i + 12),
                    four(full, i + 16));
        }
    }

    private static int four(CharSequence text, int i) {
        return text.charAt(i) << 24 | text.charAt(i + 1) << 16 | text.charAt(i + 2) << 8
                | text.charAt(i + 3);
    }

    static int mill(LightestSack x, String text) {
        feed(x, text);
        return x.mill(text.length());
    }

    static int law(LightestSack x, String text) {
        feed(x, text);
        return x.law(text.length());
    }

    static LightestSack with(String mill) {
        LightestSack x = new LightestSack();
        if (mill(x, mill) < 0) {
            throw new IllegalStateException("the test's own mill is faulty: " + mill);
        }
        return x;
    }

    static LightestSack with(String mill, String law) {
        LightestSack x = with(mill);
        if (law(x, law) < 0) {
            throw new IllegalStateException("the test's own law is faulty: " + law);
        }
        return x;
    }

    static void lay(LightestSack x, int tray, int... numbers) {
        x.tray(tray, 2, numbers.length);
        for (int i = 0; i < numbers.length; i++) {
            x.write(tray, i, numbers[i]);
        }
    }

    /** Parts a sack by a tray laid with these numbers; answers how many pieces there are then. */
    static int part(LightestSack x, int s, int tray, int... numbers) {
        lay(x, tray, numbers);
        return x.part(s, tray);
    }
}
