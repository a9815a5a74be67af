import java.util.ArrayList;
import java.util.List;

/**
 * An OrbitBox for tests that ask much: the document says nothing of an object behind its 512th call, so before that a
 * new one takes its place and does once more all that changed the old one.
 */
final class Box {
    private static final int CALLS = 512;

    private interface Call {
        int on(OrbitBox box);
    }

    private final int entries;
    private final int length;
    private final int frames;
    private final int patience;
    private final int store;
    private final List<Call> changes = new ArrayList<>();
    private OrbitBox box;
    private int calls;

    Box(int entries, int length, int frames, int patience, int store) {
        this.entries = entries;
        this.length = length;
        this.frames = frames;
        this.patience = patience;
        this.store = store;
        begin();
    }

    private void begin() {
        box = new OrbitBox(entries, length, frames, patience, store);
        calls = 0;
    }

    /** How many calls changed it. */
    int changes() {
        return changes.size();
    }

    private int ask(Call call) {
        if (calls == CALLS) {
            begin();
            for (Call change : changes) {
                change.on(box);
                calls++;
            }
        }
        if (calls == CALLS) {
            throw new IllegalStateException("this test needs more than 512 calls on one object");
        }
        calls++;
        return call.on(box);
    }

    private int change(Call call) {
        int answer = ask(call);
        changes.add(call);
        return answer;
    }

    boolean feed(int a, int b, int c, int d, int e) {
        return change(x -> x.feed(a, b, c, d, e) ? 1 : 0) == 1;
    }

    boolean end(int n) {
        return change(x -> x.end(n) ? 1 : 0) == 1;
    }

    int uplink() {
        return change(OrbitBox::uplink);
    }

    boolean sense(int k, int v) {
        return change(x -> x.sense(k, v) ? 1 : 0) == 1;
    }

    int tick() {
        return change(OrbitBox::tick);
    }

    int down(int f, int k) {
        return ask(x -> x.down(f, k));
    }

    int value(int k) {
        return ask(x -> x.value(k));
    }

    int word() {
        return ask(OrbitBox::word);
    }

    int memory(int k) {
        return ask(x -> x.memory(k));
    }

    int entry(int i, int what) {
        return ask(x -> x.entry(i, what));
    }

    int limit(int id, int what) {
        return ask(x -> x.limit(id, what));
    }

    int state(int what) {
        return ask(x -> x.state(what));
    }
}
