/** What the tests share: it tells every answer that is not the one that is due, and ends with 1 if there was one. */
final class Due {
    private static int right = 0;
    private static int wrong = 0;

    private Due() {
    }

    static void is(String call, long got, long want) {
        if (got == want) {
            right++;
        } else {
            wrong++;
            if (wrong <= 40) {
                System.out.println(call + " answered " + got + ", due is " + want);
            }
        }
    }

    static void holds(String what, boolean held) {
        is(what, held ? 1 : 0, 1);
    }

    static void end(String name) {
        System.out.println(name + ": " + right + " as due, " + wrong + " not");
        if (wrong != 0 || right == 0) {
            System.exit(1);
        }
    }
}
