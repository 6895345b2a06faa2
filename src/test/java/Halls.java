/** Halls with the same plan, for many questions: each is used for at most 512 calls, as the document says. */
final class Halls {
    private static final int MOST_CALLS = 512;
    private final String plan;
    private TurningHall latest = null;
    private int left = 0;

    Halls(String plan) {
        this.plan = plan;
    }

    /** Halls with no plan read. */
    Halls() {
        this("");
    }

    /** The latest hall, or a new one, for so many calls at most. */
    TurningHall of(int calls) {
        if (left < calls) {
            latest = plan.isEmpty() ? new TurningHall() : Check.hall(plan);
            left = MOST_CALLS - (plan.isEmpty() ? 0 : Check.calls(plan) + 1);
        }
        left -= calls;
        return latest;
    }
}
