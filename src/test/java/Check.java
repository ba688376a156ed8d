import java.util.NoSuchElementException;

/** What the tests have in common: comparing, calls that throw, texts for the buffer. */
final class Check {
    interface Call {
        long answer();
    }

    private static int wrong = 0;
    private static int checked = 0;
    private static String about = "";

    static {
        stopWhenLate();
    }

    private Check() {
    }

    /** A call that never returns must fail the test, not hold it up. */
    private static void stopWhenLate() {
        Thread watch = new Thread(() -> {
            try {
                Thread.sleep(120000);
            } catch (InterruptedException stopped) {
                return;
            }
            System.out.println(about + "not ended after two minutes");
            Runtime.getRuntime().halt(1);
        });
        watch.setDaemon(true);
        watch.start();
    }

    /** What the checks that follow are about; it is told with each wrong one. */
    static void about(String what) {
        about = what + ": ";
    }

    static void same(String what, long got, long due) {
        checked++;
        if (got != due) {
            wrong++;
            System.out.println(about + what + ": answered " + got + ", due is " + due);
        }
    }

    static void isTrue(String what, boolean got) {
        same(what, got ? 1 : 0, 1);
    }

    /** An exception's number: 1 NoSuchElementException, 2 IllegalArgumentException, 3 any other, 0 none. */
    static int thrownBy(Call call) {
        try {
            call.answer();
            return 0;
        } catch (RuntimeException thrown) {
            return kindOf(thrown);
        }
    }

    static int kindOf(RuntimeException thrown) {
        if (thrown.getClass() == NoSuchElementException.class) {
            return 1;
        }
        return thrown.getClass() == IllegalArgumentException.class ? 2 : 3;
    }

    static void noSuchElement(String what, Call call) {
        same(what + " throws NoSuchElementException", thrownBy(call), 1);
    }

    static void illegalArgument(String what, Call call) {
        same(what + " throws IllegalArgumentException", thrownBy(call), 2);
    }

    /** Feeds a text, filled up with blanks to calls of 20 bytes. */
    static void feed(StrikeWheels wheels, String text) {
        for (int from = 0; from < text.length(); from += 20) {
            wheels.feed(four(text, from), four(text, from + 4), four(text, from + 8),
                    four(text, from + 12), four(text, from + 16));
        }
    }

    static int load(StrikeWheels wheels, String text) {
        feed(wheels, text);
        return wheels.load(text.length());
    }

    static int play(StrikeWheels wheels, String text) {
        feed(wheels, text);
        return wheels.play(text.length());
    }

    static StrikeWheels of(String text) {
        StrikeWheels wheels = new StrikeWheels();
        int answer = load(wheels, text);
        isTrue("load of " + text + " (" + answer + ")", answer > 0);
        return wheels;
    }

    static String formatted(StrikeWheels wheels, int length) {
        StringBuilder text = new StringBuilder();
        for (int index = 0; index < length; index++) {
            text.append((char) wheels.formattedByte(index));
        }
        return text.toString();
    }

    static void sameText(String what, String got, String due) {
        checked++;
        if (!got.equals(due)) {
            wrong++;
            System.out.println(about + what + ": answered \"" + got + "\", due is \"" + due + "\"");
        }
    }

    static void close(String name) {
        System.out.println(name + ": " + checked + " checks, " + wrong + " wrong");
        if (wrong != 0) {
            System.exit(1);
        }
    }

    private static int four(String text, int from) {
        int four = 0;
        for (int index = from; index < from + 4; index++) {
            four = four << 8 | (index < text.length() ? text.charAt(index) & 255 : 32);
        }
        return four;
    }
}
