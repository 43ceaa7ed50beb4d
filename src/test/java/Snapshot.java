import java.util.ArrayList;
import java.util.List;

/**
 * All that can be asked of a queue, as lists of numbers. The dearest list takes some 240 calls of
 * a full queue, of the 512 that an object has.
 */
final class Snapshot {
    private Snapshot() {
    }

    /** What all questions answer; the queue stays as it is. */
    static List<Long> of(ConsentQueue queue) {
        List<Long> all = ofState(queue);
        all.add((long) queue.whole(13));
        all.add(queue.digest());
        return all;
    }

    /** The same without what undo() does not bring back: the text and the number of states. */
    static List<Long> ofState(ConsentQueue queue) {
        List<Long> all = new ArrayList<>();
        for (int what = 0; what <= 12; what++) {
            all.add((long) queue.whole(what));
        }
        int count = queue.whole(0);
        for (int place = 0; place <= count; place++) {
            all.add((long) queue.at(place));
        }
        for (int place = 0; place < count; place++) {
            addMember(all, queue, queue.at(place));
        }
        for (int place = 0; place + 1 < count; place++) {
            for (int what = 0; what <= 4; what++) {
                all.add((long) queue.pair(place, what));
            }
            all.add((long) queue.reason(place));
        }
        all.add((long) queue.honestCost());
        all.add((long) queue.disorder());
        return all;
    }

    private static void addMember(List<Long> all, ConsentQueue queue, int member) {
        for (int what = 0; what <= 9; what++) {
            all.add((long) queue.member(member, what));
        }
        all.add((long) queue.settledPlace(member));
        all.add((long) queue.bestLie(member));
        all.add((long) queue.profit(member, 0));
        all.add((long) queue.profit(member, 99));
    }

    /** What undo() answers and brings back until the stack is empty; this changes the queue. */
    static List<Long> ofSavedStates(ConsentQueue queue) {
        List<Long> all = new ArrayList<>();
        for (int i = 0; i < 6; i++) {
            try {
                all.add((long) queue.undo());
            } catch (IllegalStateException empty) {
                return all;
            }
            all.add(queue.digest());
            for (int place = 0; place < queue.whole(0); place++) {
                all.add((long) queue.bestLie(queue.at(place)));
            }
        }
        return all;
    }

    /** What the text does when it is run; this changes the queue. */
    static List<Long> ofText(ConsentQueue queue) {
        List<Long> all = new ArrayList<>();
        all.add((long) queue.runCommands());
        all.add(queue.digest());
        all.add((long) queue.clearCommands());
        return all;
    }
}
