/** Counts and prints the answers that are not the ones that are due. */
class Checks {
    private String under = "";
    private int made = 0;
    private int wrong = 0;

    /** What is checked from here on is told under these words. */
    final void under(String words) {
        under = words;
    }

    final int made() {
        return made;
    }

    final void due(String call, long got, long want) {
        made++;
        if (got != want) {
            tell(call + " answered " + got + ", due is " + want);
        }
    }

    final void holds(String what, boolean so) {
        made++;
        if (!so) {
            tell("does not hold: " + what);
        }
    }

    final void dueRange(String call, StretchDesk desk, int slot, int sort, long low, long high) {
        due(call + ": sort", desk.sort(slot), sort);
        due(call + ": low", desk.low(slot), low);
        due(call + ": high", desk.high(slot), high);
    }

    final void dueEmpty(String call, StretchDesk desk, int slot) {
        due(call + ": sort of what is EMPTY", desk.sort(slot), -3);
    }

    final void dueRefusal(String call, StretchDesk desk, long got, long want) {
        due(call, got, want);
        due(call + ": state()", desk.state(), want);
    }

    /** An answer that is no refusal, however small it is. */
    final void dueDone(String call, StretchDesk desk, long got, long want) {
        due(call, got, want);
        due(call + ": state()", desk.state(), 0);
    }

    void end() {
        String which = wrong == 0 ? made + " answers are" : wrong + " of " + made + " answers are not";
        System.out.println(which + " as due");
        if (wrong != 0) {
            System.exit(1);
        }
    }

    private void tell(String what) {
        wrong++;
        if (wrong <= 50) {
            System.out.println(under + what);
        }
    }
}
