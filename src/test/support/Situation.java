import java.util.ArrayList;
import java.util.List;

/** A desk that was used for some calls, the calls that it refuses then, and some that it takes. */
public final class Situation {
    private final String name;
    private final int bells;
    private final int lead;
    private final List<Asked> setUp = new ArrayList<>();
    private final List<Asked> refused = new ArrayList<>();
    private final List<String> answers = new ArrayList<>();
    private final List<Asked> taken = new ArrayList<>();

    /** The lead's length is 0 when there is no method. */
    public Situation(String name, int bells, int lead) {
        this.name = name;
        this.bells = bells;
        this.lead = lead;
    }

    public void after(String call, int... arguments) {
        setUp.add(new Asked(call, arguments));
    }

    public void refuses(Object answer, String call, int... arguments) {
        answers.add(String.valueOf(answer));
        refused.add(new Asked(call, arguments));
    }

    public void takes(String call, int... arguments) {
        taken.add(new Asked(call, arguments));
    }

    public String name() {
        return name;
    }

    public int bells() {
        return bells;
    }

    public boolean hasMethod() {
        return lead > 0;
    }

    public int leadLength() {
        return lead;
    }

    public int callsBefore() {
        return setUp.size();
    }

    public List<Asked> refused() {
        return refused;
    }

    public String answerTo(int refusal) {
        return answers.get(refusal);
    }

    public List<Asked> taken() {
        return taken;
    }

    public RungTouches newDesk() {
        RungTouches desk = new RungTouches();
        for (Asked call : setUp) {
            call.of(desk);
        }
        return desk;
    }
}
