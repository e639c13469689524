import java.util.ArrayList;
import java.util.List;
import java.util.stream.IntStream;

/** All that an object tells of its state, but the number of states in the history. */
final class Answers {
    private Answers() {
    }

    /** The answers of now and of each state of the history, the latest one first; it takes them all back. */
    static List<int[]> deepOf(PenStrike p) {
        List<int[]> all = new ArrayList<>();
        all.add(of(p));
        for (int i = 0; i < 10 && p.undo() >= 0; i++) {
            all.add(of(p));
        }
        return all;
    }

    static int[] of(PenStrike p) {
        IntStream.Builder all = IntStream.builder();
        for (int what = 0; what <= 24; what++) {
            if (what != 11) {
                all.add(p.count(what));
            }
        }
        for (int pen = 0; pen < p.count(0); pen++) {
            for (int what = 0; what <= 10; what++) {
                all.add(p.penOf(pen, what));
            }
            all.add(p.room(pen));
        }
        for (int line = 0; line < p.count(1); line++) {
            ofLine(p, line, all);
        }
        all.add(p.strikers()).add(p.spread()).add(p.seams()).add(p.meanShade()).add(p.fairSpread());
        for (int index = 0; index <= p.count(1); index++) {
            all.add(p.tour(index, 0)).add(p.tour(index, 1)).add(p.tour(index, 2));
        }
        all.add(p.fault(0)).add(p.fault(1)).add(p.fault(2));
        return all.build().toArray();
    }

    private static void ofLine(PenStrike p, int line, IntStream.Builder all) {
        for (int what = 0; what <= 9; what++) {
            all.add(p.lineOf(line, what));
        }
        for (int way = 0; way <= 1; way++) {
            all.add(p.whyNot(line, way)).add(p.waitFor(line, way));
        }
        all.add(p.touching(line)).add(p.fair(line));
        for (int other = 0; other < p.count(1); other++) {
            all.add(p.touch(line, other));
        }
        for (int pen = 0; pen < p.count(0); pen++) {
            all.add(p.seamsBy(line, pen));
        }
    }
}
