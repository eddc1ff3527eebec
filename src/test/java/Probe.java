import java.util.ArrayList;
import java.util.List;

/** All that shows how an object is, in parts: most parts alter it, so each is for an object of its own. */
final class Probe {
    static final int PARTS = 8;
    private static final long ALL_BITS = 0x923456789ABCDEF0L;

    private final BirthTenth x;
    private final List<Long> told = new ArrayList<>();

    private Probe(BirthTenth x) {
        this.x = x;
    }

    static List<Long> told(BirthTenth x, int part) {
        Probe probe = new Probe(x);
        switch (part) {
            case 0: probe.people(); break;
            case 1: probe.book(); break;
            case 2: probe.rows(); break;
            case 3: probe.text(); break;
            case 4: probe.image(); break;
            case 5: probe.tapes(0); break;
            case 6: probe.tapes(3); break;
            default: probe.days();
        }
        return probe.told;
    }

    private void add(long answer) {
        told.add(answer);
    }

    private void people() {
        for (int what = 0; what < 5; what++) {
            add(x.count(what));
        }
        for (int what = 0; what < 42; what++) {
            add(x.told(what));
        }
        for (int p = 0; p < 7; p++) {
            for (int what = 0; what < 9; what++) {
                add(x.of(p, what));
            }
            for (int k = 0; k < 7; k++) {
                add(x.taken(p, k));
            }
            add(x.by(p, 60, 0));
            add(x.by(p, 60, 1));
        }
        for (int i = 0; i < 21; i++) {
            add(x.trace(i));
        }
        add(x.quiet());
        add(x.mean(0));
    }

    private void book() {
        for (int n = 0; n < 100; n++) {
            add(x.looked(n));
        }
        add(x.count(2));
        add(x.book(7));
        add(x.book(8));
    }

    private void rows() {
        for (int p = 0; p < 7; p++) {
            for (int part = 0; part < 4; part++) {
                add(x.row(p, part, part));
            }
        }
    }

    private void text() {
        add(x.count(3));
        add(x.town());
        add(x.count(3));
        add(x.count(1));
        people();
    }

    private void image() {
        add(x.undo());
        people();
        rows();
        add(x.looked(0));
        add(x.looked(99));
    }

    /** What three tapes hold, of which sort and how long they are. */
    private void tapes(int from) {
        for (int tape = from; tape < from + 3; tape++) {
            for (int i = 0; i < 61; i++) {
                add(x.read(tape, i));
            }
            add(x.judge(tape, 0));
            add(x.item(tape, 60, 0));
            add(x.item(tape, 0, ALL_BITS));
            add(x.read(tape, 0));
            add(x.shift(tape, 0, tape, 0, 61));
        }
    }

    private void days() {
        for (int day = 0; day < 36; day++) {
            add(x.day());
            for (int p = 0; p < 7; p++) {
                add(x.of(p, 8));
            }
        }
    }
}
