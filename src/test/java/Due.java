/** Counts the answers that are not as due, and prints each of them. */
final class Due {
    private final String name;
    private int checked;
    private int wrong;

    Due(String name) {
        this.name = name;
    }

    void is(String call, long got, long want) {
        checked++;
        if (got != want) {
            wrong++;
            System.out.println(name + ": " + call + " answered " + got + ", due is " + want);
        }
    }

    void holds(String what, boolean condition) {
        checked++;
        if (!condition) {
            wrong++;
            System.out.println(name + ": does not hold: " + what);
        }
    }

    int checked() {
        return checked;
    }

    void end() {
        System.out.println(name + ": " + checked + " checked, " + wrong + " wrong");
        if (wrong != 0 || checked == 0) {
            System.exit(1);
        }
    }
}
