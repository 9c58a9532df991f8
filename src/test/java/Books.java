/** Texts of books that several tests tell. */
final class Books {
    /** Machines c a b, rows put ack log; c asks two others to log, and says ack at once. */
    static final String LOGS = "machine c; machine a; machine b; row put; row ack kept; row log kept; "
        + "fact put at c; send log to a if put at c; send log to b if put at c; rule ack now if put at c; "
        + "promise ack at c gives log at a or log at b";
    /** Machines c s, rows put got log; c asks till it hears. */
    static final String RETRY = "machine c; machine s; row put kept; row got kept; row log kept; "
        + "fact put at c; send log to s if put and not got at c; send got to c if log at s; "
        + "promise put at c gives log at s";
    /** Two facts maybe, each with a send of its own from a to b. */
    static final String STARTS = "machine a; machine b; row x kept; row y kept; row z kept; "
        + "fact x at a; fact y at a maybe; fact x at b maybe; send z to b if x at a; send z to b if y at a; "
        + "promise x at a gives z at b";
    /** The promise is never met. */
    static final String LOST_CAUSE = "machine a; row x kept; row y; fact x at a; promise x at a gives y at a";
    static final String IDLE_BOOK = "machine a; row x; promise x at a gives x at a";
    /** x is kept at a, which says y to b in every tick; b forgets it at once. */
    static final String PAIR = "machine a;machine b;row x kept;row y;fact x at a;send y to b if x at a;"
        + "promise x at a gives y at b";
    /** The same with two sends. */
    static final String TWICE = PAIR.replace("promise", "send y to b if x at a;promise");
    /** Six sends and four machines: 60 words to lose and machines to go down if LAST is 6. */
    static final String WIDE = "machine a;machine b;machine c;machine d;row x kept;fact x at a;"
        + "send x to b if x at a;".repeat(2) + "send x to c if x at a;".repeat(2) + "send x to d if x at a;".repeat(2)
        + "promise x at a gives x at b or x at c or x at d";

    private Books() {
    }
}
