/** The face of RungTouches, so that a test can put the program and the model side by side. */
public interface Desk {
    boolean bells(int n);

    boolean notation(int i, int mask);

    boolean callNotation(int kind, int mask);

    int define(int len);

    int call(int kind);

    boolean change(int k, int kind);

    boolean keep(int k);

    int calls();

    int callAt(int k);

    int prove();

    int rows();

    int bell(int i, int place);

    int rank(int i);

    int unrank(int rank, int place);

    int course();

    boolean falseLeads(int a, int b);

    int search(int least, int most, int budget);

    int count(int rows, int budget);

    int looked();

    boolean pattern(int slot, int place, int bell);

    int music(int slot);
}
