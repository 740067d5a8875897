/** Counts and prints the answers that are not the ones that are due. */
final class Checks {
    private int made = 0;
    private int wrong = 0;

    void due(String call, long got, long want) {
        made++;
        if (got != want) {
            wrong++;
            if (wrong <= 50) {
                System.out.println(call + " answered " + got + ", due is " + want);
            }
        }
    }

    void dueRange(String call, StretchDesk desk, int slot, int sort, long low, long high) {
        due(call + ": sort", desk.sort(slot), sort);
        due(call + ": low", desk.low(slot), low);
        due(call + ": high", desk.high(slot), high);
    }

    void dueEmpty(String call, StretchDesk desk, int slot) {
        due(call + ": sort of what is EMPTY", desk.sort(slot), -3);
    }

    void dueRefusal(String call, StretchDesk desk, long got, long want) {
        due(call, got, want);
        due(call + ": state()", desk.state(), want);
    }

    void end() {
        System.out.println(wrong == 0 ? made + " answers are as due" : wrong + " of " + made + " answers are not as due");
        if (wrong != 0) {
            System.exit(1);
        }
    }
}
