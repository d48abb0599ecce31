/** RungTouches behind the interface that it shares with the model. */
public final class ProgramDesk implements Desk {
    private final RungTouches x = new RungTouches();

    @Override
    public boolean bells(int n) {
        return x.bells(n);
    }

    @Override
    public boolean notation(int i, int mask) {
        return x.notation(i, mask);
    }

    @Override
    public boolean callNotation(int kind, int mask) {
        return x.callNotation(kind, mask);
    }

    @Override
    public int define(int len) {
        return x.define(len);
    }

    @Override
    public int call(int kind) {
        return x.call(kind);
    }

    @Override
    public boolean change(int k, int kind) {
        return x.change(k, kind);
    }

    @Override
    public boolean keep(int k) {
        return x.keep(k);
    }

    @Override
    public int calls() {
        return x.calls();
    }

    @Override
    public int callAt(int k) {
        return x.callAt(k);
    }

    @Override
    public int prove() {
        return x.prove();
    }

    @Override
    public int rows() {
        return x.rows();
    }

    @Override
    public int bell(int i, int place) {
        return x.bell(i, place);
    }

    @Override
    public int rank(int i) {
        return x.rank(i);
    }

    @Override
    public int unrank(int rank, int place) {
        return x.unrank(rank, place);
    }

    @Override
    public int course() {
        return x.course();
    }

    @Override
    public boolean falseLeads(int a, int b) {
        return x.falseLeads(a, b);
    }

    @Override
    public int search(int least, int most, int budget) {
        return x.search(least, most, budget);
    }

    @Override
    public int count(int rows, int budget) {
        return x.count(rows, budget);
    }

    @Override
    public int looked() {
        return x.looked();
    }

    @Override
    public boolean pattern(int slot, int place, int bell) {
        return x.pattern(slot, place, bell);
    }

    @Override
    public int music(int slot) {
        return x.music(slot);
    }
}
