/** What the project's tests have in common: they print each wrong answer, and end with exit code 1 if there was one. */
final class Checks {
    private int wrong;

    void due(String call, long got, long want) {
        if (got != want) {
            wrong++;
            System.out.println(call + " answered " + got + ", due is " + want);
        }
    }

    void holds(String what, boolean condition) {
        if (!condition) {
            wrong++;
            System.out.println("does not hold: " + what);
        }
    }

    /** Every argument beyond the edges of a range, far and near. */
    static int[] outside(int least, int most) {
        return new int[] {least - 1, most + 1, Integer.MIN_VALUE, Integer.MAX_VALUE, least - 1000, most + 1000};
    }

    static void write(LinkNames x, String text) {
        for (int i = 0; i < text.length(); i++) {
            x.type(text.charAt(i));
        }
    }

    static int reads(LinkNames x, String text) {
        x.clear();
        write(x, text);
        return x.reads();
    }

    static LinkNames withHosts(int hosts) {
        LinkNames x = new LinkNames();
        for (int h = 0; h < hosts; h++) {
            x.host();
        }
        return x;
    }

    void end(String test) {
        System.out.println(test + ": " + (wrong == 0 ? "all answers are as due" : wrong + " answers are not as due"));
        if (wrong != 0) {
            System.exit(1);
        }
    }
}
