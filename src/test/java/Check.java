/** What the tests share: answers are compared, wrong ones are printed and counted. */
final class Check {
    static final int BAD = -1, STATE = -2, FULL = -3, NONE = -4;
    private static int wrong = 0;
    private static int asked = 0;
    private static String about = "";

    private Check() {
    }

    static void due(String what, long got, long want) {
        asked++;
        if (got != want) {
            wrong++;
            if (wrong <= 50) {
                System.out.println(about + what + " answered " + got + ", due is " + want);
            }
        }
    }

    static void holds(String what, boolean so) {
        asked++;
        if (!so) {
            wrong++;
            System.out.println(about + what + " does not hold");
        }
    }

    /** What is printed ahead of each wrong answer from here on. */
    static void about(String what) {
        about = what.isEmpty() ? "" : what + ": ";
    }

    static int askedOnes() {
        return asked;
    }

    static int wrongOnes() {
        return wrong;
    }

    /** A new object that has been told a text. */
    static GuardedCode told(String text) {
        GuardedCode x = new GuardedCode();
        if (tell(x, text) < 0) {
            holds("that the text \"" + text + "\" is taken", false);
        }
        return x;
    }

    static int tell(GuardedCode x, String text) {
        feedAll(x, text);
        return x.text();
    }

    static void feedAll(GuardedCode x, String text) {
        for (int at = 0; at < text.length(); at++) {
            x.feed(text.charAt(at));
        }
    }

    static void finish() {
        System.out.println(asked + " answers, " + wrong + " not as due");
        if (wrong != 0) {
            System.exit(1);
        }
    }
}
