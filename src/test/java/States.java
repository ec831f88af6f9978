import java.util.List;
import java.util.function.Consumer;
import java.util.function.Supplier;

/** Objects in states that lie at the edges, and all that can be told of one. */
final class States {
    /** A new object; a group alone; a row, its past, an image; all full, with a fault told. */
    static final List<Supplier<NoughtSums>> ALL =
        List.of(NoughtSums::new, States::bare, States::midway, States::full);

    private States() {
    }

    static NoughtSums bare() {
        NoughtSums x = Tester.of("group 6;");
        Tester.put(x, "group 3;put 2;");
        return x;
    }

    static NoughtSums midway() {
        NoughtSums x = Tester.of("group 2 4;put 1 3;put 0 2;");
        x.image(1);
        x.come(1);
        x.times(3);
        Tester.put(x, "group 5;put 4 times 2;");
        return x;
    }

    static NoughtSums full() {
        NoughtSums x = Tester.of("group 13;put 5;put 12 times 2;");
        x.image(0);
        Tester.read(x, "group 24;put 23 times 3;");
        x.image(1);
        for (int i = 0; i < 9; i++) {
            x.come(3 * i % 11);
        }
        Tester.read(x, "group 24;put 23;put 24;");
        Tester.put(x, "group 7;put 6;" + " ".repeat(326));
        return x;
    }

    /** What stands now. */
    static String told(NoughtSums x) {
        StringBuilder s = new StringBuilder("[");
        for (int what = 0; what < 7; what++) {
            s.append(x.now(what)).append(' ');
        }
        s.append("parts");
        for (int i = 0; i < 4; i++) {
            s.append(' ').append(x.part(i));
        }
        s.append(" row");
        for (int place = 0; place < 13; place++) {
            s.append(' ').append(x.at(place));
        }
        return s.append(" fault ").append(x.fault(0)).append(' ').append(x.fault(1)).append(']').toString();
    }

    /** What stands, what can be undone, what is kept, what lies on the tape; the object is spent by it. */
    static String spent(NoughtSums x) {
        StringBuilder s = new StringBuilder(told(x));
        for (int i = 0; i < 9; i++) {
            s.append(" undo ").append(x.undo()).append(told(x));
        }
        for (int k = 0; k < 2; k++) {
            s.append(" restore ").append(x.restore(k)).append(told(x));
        }
        if (x.now(6) > 300) {
            x.end(300);
        }
        return s.append(" text ").append(x.text()).append(told(x)).toString();
    }

    /** Is nothing of what is told, kept or can be undone another by these calls? */
    static void unchanged(Tester t, String calls, Supplier<NoughtSums> made, Consumer<NoughtSums> act) {
        NoughtSums x = made.get();
        act.accept(x);
        t.due(calls + " changes nothing", spent(made.get()), spent(x));
    }
}
