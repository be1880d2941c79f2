import java.util.ArrayList;
import java.util.List;
import java.util.function.Supplier;
import java.util.function.ToIntFunction;

/** Objects in states of every sort, and calls of every sort. */
final class States {
    private static final int[] VALUES = {Integer.MIN_VALUE, -1, 0, 3, 4, 7, 8, 16, 17, 65535, 65536, Integer.MAX_VALUE};

    private States() {}

    static List<Supplier<SnobolMatcher>> all() {
        return List.of(Check::fresh, Check::used, States::failed, States::outOfSteps, States::fullStack,
            States::fullPool, States::fullPoolAndStack, States::oneEntry);
    }

    static SnobolMatcher failed() {
        SnobolMatcher m = Check.used();
        Check.due("a match that fails", m.match(2, true), SnobolMatcher.R_FAILED);
        return m;
    }

    static SnobolMatcher outOfSteps() {
        SnobolMatcher m = Check.used(16, 16, 8);
        Postfix.define(m, 3, "ARB ARB ARB FAIL CAT CAT CAT");
        Check.due("a match that runs out", m.match(3, true), SnobolMatcher.R_OUT_OF_STEPS);
        return m;
    }

    /** The stack and the subject are full, the pool is not. */
    static SnobolMatcher fullStack() {
        SnobolMatcher m = Check.used(3, 250, 8);
        Postfix.push(m, Postfix.times(14, "LEN:1"));
        return m;
    }

    /** The pool is full, the stack is empty. */
    static SnobolMatcher fullPool() {
        SnobolMatcher m = Check.used(4, 250, 8);
        for (int i = 7; i < 32; i++) {
            Postfix.push(m, "ARB");
            m.define(1);
        }
        m.define(1);
        m.define(0);
        return m;
    }

    static SnobolMatcher fullPoolAndStack() {
        SnobolMatcher m = fullStack();
        Postfix.push(m, Postfix.times(11, "FENCE"));
        return m;
    }

    static SnobolMatcher oneEntry() {
        SnobolMatcher m = Check.used();
        m.define(2);
        return m;
    }

    /** Calls with good and wrong arguments of every method that changes the object. */
    static List<ToIntFunction<SnobolMatcher>> calls() {
        List<ToIntFunction<SnobolMatcher>> calls = new ArrayList<>();
        for (int kind = -1; kind <= 20; kind++) {
            int given = kind;
            calls.add(m -> m.push(given, 0, 0));
            calls.add(m -> m.push(given, 9, 8));
            calls.add(m -> m.push(given, 65536, 65536));
            calls.add(m -> m.push(given, -1, 70000));
        }
        for (int value : VALUES) {
            calls.add(m -> m.push(value, value, value));
            calls.add(m -> m.define(value));
            calls.add(m -> m.addSubjectChar(value));
            calls.add(m -> m.match(value, true));
            calls.add(m -> m.match(value, false));
        }
        for (int v = 0; v < 4; v++) {
            int given = v;
            calls.add(m -> m.match(given, false));
            calls.add(m -> m.define(given));
        }
        return calls;
    }
}
