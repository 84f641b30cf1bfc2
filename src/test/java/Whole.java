import java.util.ArrayList;
import java.util.List;
import java.util.NoSuchElementException;

/**
 * All that can be asked of a house of four feet, a line for each answer, so that two houses can be
 * compared. What no call tells by itself (the tape's bytes, SHAPES, pull, heat) is told by calls
 * that change the house: they come last, and use it up. Some 300 calls in all.
 */
final class Whole {
    private static final int[] DAYS = {0, 2, 4, 999};

    private final ThreadHouse house;
    private final List<String> lines = new ArrayList<>();

    private Whole(ThreadHouse house) {
        this.house = house;
    }

    static List<String> of(ThreadHouse house) {
        Whole whole = new Whole(house);
        whole.askCounts();
        whole.askLatest();
        whole.askHours();
        whole.useTape();
        whole.useShapes();
        whole.useRows();
        return whole.lines;
    }

    private void note(String what, long answer) {
        lines.add(what + " is " + answer);
    }

    private void noteOrThrow(String what, Check.Call call) {
        try {
            note(what, call.answer());
        } catch (NoSuchElementException e) {
            lines.add(what + " throws");
        }
    }

    private void askCounts() {
        for (int what = 0; what <= 5; what++) {
            note("count " + what, house.count(what));
        }
        note("fault", house.fault());
        for (int i = 0; i <= 4; i++) {
            note("FIXED " + i, house.foot(i, 0));
            note("HOLD " + i, house.foot(i, 1));
        }
        note("noise", house.falseShare(2, 1, 0));
        note("noise", house.falseShare(2, 1, 1));
    }

    private void askLatest() {
        for (int k = 0; k <= 4; k++) {
            int i = k;
            noteOrThrow("least " + k, () -> house.mayFeel(i, 0));
            noteOrThrow("most " + k, () -> house.mayFeel(i, 1));
            note("walked " + k, house.walked(k));
            note("paired " + k, house.paired(k));
            note("gauge " + k, house.gauge(k));
            for (int what = 0; what <= 2; what++) {
                note("event " + k + " " + what, house.event(k, what));
            }
        }
    }

    private void askHours() {
        for (int t : DAYS) {
            for (int h = 0; h < 3; h++) {
                String when = " in " + h + " as of " + t;
                int slips = house.slips(h, t);
                note("slips" + when, slips);
                for (int i = 0; i < 4 && slips >= 0; i++) {
                    note("felt " + i + when, house.felt(i, h, t));
                    note("box 0 of " + i + when, house.read(i, h, t, 0));
                }
                note("box 1" + when, slips < 0 ? -1 : house.read(1, h, t, 1) * 1000 + house.read(2, h, t, 1));
                note("alarm 0" + when, house.alarm(0, h, t));
                note("alarm 1" + when, house.alarm(1, h, t));
            }
            note("alarmed 0 as of " + t, house.alarmed(0, t));
            note("alarmed 1 as of " + t, house.alarmed(1, t));
        }
    }

    /** The tape's last bytes, 48 at most, lined up with a row that tells them apart. */
    private void useTape() {
        int bytes = house.count(5);
        if (bytes > 48) {
            note("end", house.end(48) ? 1 : 0);
        }
        int first = house.count(5);
        house.feed(0x00204060, 0x80a0c0e0, 0xff10ff20, 0x30405060, 0x708090a0);
        note("lined", house.lined(first, 40));
        for (int k = 0; k < 48 && k < first; k += 3) {
            note("tape " + k, house.paired(k));
        }
    }

    private void useShapes() {
        int[][] rows = {{3, 0, 0, 0}, {0, 5, -4, 0}, {0, 9, 0, 9}, {0, 0, 0, 7}};
        for (int[] row : rows) {
            note("explain", Check.explain(house, row));
            note("event", house.event(0, 0) * 100 + house.event(0, 1) * 10 + house.event(0, 2));
        }
    }

    private void useRows() {
        note("hour", Check.hour(house, 40, 0, -7, 9, 1, 2, 3, 4));
        int latest = house.count(2) - 1;
        for (int i = 0; i < 4; i++) {
            note("felt " + i, house.felt(i, latest, 999));
            note("box 0 of " + i, house.read(i, latest, 999, 0));
            note("box 1 of " + i, house.read(i, latest, 999, 1));
        }
        note("alarm 0", house.alarm(0, latest, 999));
        note("alarm 1", house.alarm(1, latest, 999));
        note("mend", Check.mend(house, 0, 1, 2, 3, 4, 0, 0, 0, 0) ? 1 : 0);
        note("felt 0", house.felt(0, 0, 999));
        note("next", house.next(0));
    }
}
