import java.util.function.LongSupplier;

/** What the tests share: counting what is not as due, and making objects of texts. */
final class Check {
    static final long OUT_OF_BOUNDS = Long.MIN_VALUE + 1;
    static final long ILLEGAL_STATE = Long.MIN_VALUE + 2;
    static final long ILLEGAL_ARGUMENT = Long.MIN_VALUE + 3;
    private static final long ANOTHER_EXCEPTION = Long.MIN_VALUE + 4;

    private static int wrong = 0;
    private static int asked = 0;

    private Check() {
    }

    static void due(String call, long want, long got) {
        asked++;
        if (got != want) {
            wrong++;
            System.out.println(call + " answered " + named(got) + ", due is " + named(want));
        }
    }

    static void due(String call, boolean want, boolean got) {
        due(call, want ? 1 : 0, got ? 1 : 0);
    }

    static void due(String call, String want, String got) {
        asked++;
        if (!want.equals(got)) {
            wrong++;
            System.out.println(call + " answered " + got + ", due is " + want);
        }
    }

    /** The answer of a call, or a number for the very exception that it throws. */
    static long answer(LongSupplier call) {
        try {
            return call.getAsLong();
        } catch (RuntimeException e) {
            if (e.getClass() == IndexOutOfBoundsException.class) {
                return OUT_OF_BOUNDS;
            }
            if (e.getClass() == IllegalStateException.class) {
                return ILLEGAL_STATE;
            }
            if (e.getClass() == IllegalArgumentException.class) {
                return ILLEGAL_ARGUMENT;
            }
            return ANOTHER_EXCEPTION;
        }
    }

    static void throwsOutOfBounds(String call, LongSupplier made) {
        due(call, OUT_OF_BOUNDS, answer(made));
    }

    static void throwsState(String call, LongSupplier made) {
        due(call, ILLEGAL_STATE, answer(made));
    }

    static void throwsArgument(String call, LongSupplier made) {
        due(call, ILLEGAL_ARGUMENT, answer(made));
    }

    static void feed(ImageTexts x, String text) {
        for (int i = 0; i < text.length(); i++) {
            due("unit(" + (int) text.charAt(i) + ")", true, x.unit(text.charAt(i)));
        }
    }

    /** A new object that has read a text which is right. */
    static ImageTexts image(String text) {
        ImageTexts x = new ImageTexts();
        feed(x, text);
        int read = x.read();
        due("whether read() takes " + text, true, read >= 0);
        return x;
    }

    static int read(String text) {
        ImageTexts x = new ImageTexts();
        feed(x, text);
        return x.read();
    }

    /** The text is WRONG at the place where marked has an !, which is no part of it. */
    static void wrong(String marked) {
        int place = marked.indexOf('!');
        String text = marked.substring(0, place) + marked.substring(place + 1);
        due("read() of " + marked.replace('\n', '|'), -1 - place, read(text));
    }

    static void right(int objects, String text) {
        due("read() of " + text.replace('\n', '|'), objects, read(text));
    }

    static String written(ImageTexts x) {
        StringBuilder text = new StringBuilder();
        for (int i = 0; i < 100000; i++) {
            int c = x.write(i);
            if (c == ImageTexts.NONE) {
                break;
            }
            text.append((char) c);
        }
        return text.toString();
    }

    static long number(boolean answer) {
        return answer ? 1 : 0;
    }

    static void close(String test) {
        System.out.println(test + ": " + asked + " answers looked at, " + wrong + " not as due");
        if (wrong != 0) {
            System.exit(1);
        }
    }

    private static String named(long answer) {
        if (answer == OUT_OF_BOUNDS) {
            return "IndexOutOfBoundsException";
        }
        if (answer == ILLEGAL_STATE) {
            return "IllegalStateException";
        }
        if (answer == ILLEGAL_ARGUMENT) {
            return "IllegalArgumentException";
        }
        return answer == ANOTHER_EXCEPTION ? "an exception that is not due" : Long.toString(answer);
    }
}
