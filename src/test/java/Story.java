/** Calls that bring a new object into some state; told again on another object, they bring it into the same one. */
interface Story {
    void tell(Subject x);

    /** The same calls, and then one that must be taken. */
    default Story and(Asked call) {
        return x -> {
            tell(x);
            Bench.due("a call on the way", call.ask(x), true);
        };
    }

    /** The same calls, and then one that must give this answer. */
    default Story and(Called call, int answer) {
        return x -> {
            tell(x);
            Bench.due("a call on the way", call.call(x), answer);
        };
    }

    /** A call that answers whether it was taken. */
    interface Asked {
        boolean ask(Subject x);
    }

    /** A call that answers a number. */
    interface Called {
        int call(Subject x);
    }
}
