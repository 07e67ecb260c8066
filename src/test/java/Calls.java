import java.util.List;

/** The calls of the face, told as texts. */
final class Calls {
    /** All calls that may be refused but swap, each with numbers that are good for Checks.rich(). */
    static final List<String> GOOD = List.of("about 0", "cell 0 0", "squeezed 0", "pieces 0", "piece 0 0 0", "fewest 0",
        "rest 0 0", "ranked 0", "sort 0", "home 4", "sizes 4 0", "gain", "next 4", "coldest 4", "fittest", "zone 0 0",
        "slot 0 0", "page 0", "pooled 0 0", "read 0 0", "aged 0", "total 0", "same 0 1", "waste", "would 1 0",
        "would 1 1", "freeing", "holds 0", "holds 1", "pushes 0 0", "pushed 7 2 0", "foretold 1 1 0", "enough",
        "op 0 0", "store 0 0", "load 0", "drop 0", "hold 0", "release 1", "poke 0 0 1", "writeBack 1", "limit 1",
        "compact", "run 0 1", "undo");

    /** Those that only ask. */
    static final List<String> QUESTIONS = GOOD.subList(0, GOOD.indexOf("store 0 0"));

    /** Those that can be undone. */
    static final List<String> ACTS = GOOD.subList(GOOD.indexOf("store 0 0"), GOOD.indexOf("undo"));

    /** The same calls, with numbers that would be refused by 2 or 5 if there were a swap, where there are such. */
    static final List<String> BAD = List.of("home 1", "home 16", "next 1", "next 16", "pooled 7 0", "read 7 0",
        "same 7 8", "would 0 0", "would 25 1", "foretold 0 1 0", "foretold 25 1 0", "foretold 1 0 0", "foretold 1 5 0",
        "load 7", "drop 7", "hold 7", "release 0", "poke 0 0 -1", "poke 0 0 100", "writeBack 0", "writeBack 31",
        "limit 0", "limit 25", "run 0 0", "run 0 25");

    private Calls() {
    }
}
