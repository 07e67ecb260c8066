/** The edges of promises 7 to 14: cells, sizes, the cut. */
public final class EdgesOfDataTest extends Checks {
    private static final String PERIOD = ";data 1,2,3,4,1,2,3,4,1,2,3,4,1,2,3,4";
    private static final String PAIRS = ";data 1x2,2x2,3x2,4x2,5x2,6x2,7x2,8x2";

    public static void main(String[] args) {
        runAll(EdgesOfDataTest.class);
    }

    private static SqueezedSwap of(String data) {
        return told(HEAD + data);
    }

    private static SqueezedSwap withTen() {
        return told(HEAD + ";data 1x16".repeat(10));
    }

    /** Of the first data, size and pieces: of each its sort, first cell, length and distance. */
    private static void cut(String data, int size, int[]... pieces) {
        SqueezedSwap x = of(data);
        gives(x, "squeezed 0", size);
        gives(x, "pieces 0", pieces.length);
        for (int i = 0; i < pieces.length; i++) {
            row(x, "piece 0 " + i, pieces[i]);
        }
        refused(x, "a piece too many of" + data, x.piece(0, pieces.length, 0), 1);
    }

    private static int[] run(int first, int length) {
        return new int[] {0, first, length, 0};
    }

    private static int[] copy(int first, int length, int distance) {
        return new int[] {1, first, length, distance};
    }

    private static int[] plain(int first, int length) {
        return new int[] {2, first, length, 0};
    }

    // ---- promise 7: cell

    static void promise07DataGoUpToThoseTold() {
        bounds(1, "cell # 0", 0, 5);
        bounds(EdgesOfDataTest::withTen, 1, "cell # 15", 0, 9);
        refuses(Checks::withoutData, 1, "cell 0 0");
    }

    static void promise07CellsGoFrom0To15() {
        bounds(1, "cell 5 #", 0, 15);
        row(told(), "cell 3", 1, 2, 3, 4, 5, 6, 7, 8, 9, 10, 11, 12, 13, 14, 15, 16);
    }

    static void promise07ACellIsFrom0To99() {
        row(of(";data 0,99,0x13,99"), "cell 0", 0, 99, 0, 0, 0, 0, 0, 0, 0, 0, 0, 0, 0, 0, 0, 99);
    }

    // ---- promise 8: squeezed

    static void promise08DataGoUpToThoseTold() {
        bounds(1, "squeezed #", 0, 5);
        bounds(EdgesOfDataTest::withTen, 1, "squeezed #", 0, 9);
        refuses(Checks::withoutData, 1, "squeezed 0");
    }

    static void promise08TheLeastSizeIs2AndTheGreatest18() {
        cut(";data 0x16", 2, run(0, 16));
        cut(";data 99,98,97,96,95,94,93,92,91,90,89,88,87,86,85,84", 18, plain(0, 8), plain(8, 8));
    }

    static void promise08ARunHas2To16Cells() {
        cut(";data 1,9x15", 4, plain(0, 1), run(1, 15));
        cut(PAIRS, 16, run(0, 2), run(2, 2), run(4, 2), run(6, 2), run(8, 2), run(10, 2), run(12, 2), run(14, 2));
    }

    static void promise08ASingleCellIsNoRun() {
        cut(";data 9x15,1", 4, run(0, 15), plain(15, 1));
        cut(";data 9x7,1,8x8", 6, run(0, 7), plain(7, 1), run(8, 8));
    }

    static void promise08ACopyHas8CellsAtMost() {
        // With nine it would be 11, with seven 13.
        gives(of(";data 1,2,3,4,5,1,2,3,4,5,1,2,3,4,9,9"), "squeezed 0", 12);
        cut(";data 1,2,3,4,5,6,7,8,1,2,3,4,5,6,7,8", 12, plain(0, 8), copy(8, 8, 8));
    }

    static void promise08ACopyHas2CellsAtLeast() {
        cut(";data 1,2,9x12,1,2", 8, plain(0, 2), run(2, 12), copy(14, 2, 14));
        cut(";data 1,2,9x13,1", 7, plain(0, 2), run(2, 13), plain(15, 1));
    }

    static void promise08ACopyIsFrom2CellsAheadOrMore() {
        cut(";data 1,2,1,2,1,2,1,2,1,2,1,2,1,2,1,2", 9, plain(0, 2), copy(2, 8, 2), copy(10, 6, 2));
    }

    static void promise08ACopyMayComeFromTheFirstCell() {
        cut(";data 1,2,3,9x10,1,2,3", 9, plain(0, 3), run(3, 10), copy(13, 3, 13));
        cut(";data 9,1,2,8x11,9,1", 9, plain(0, 3), run(3, 11), copy(14, 2, 14));
    }

    static void promise08ACopyDoesNotReachAheadOfTheFirstCell() {
        // If cells of 0 stood there, it would be 8.
        cut(";data 5,0,5,0,5,0,5,0,5,0,5,0,5,0,5,0", 9, plain(0, 2), copy(2, 8, 2), copy(10, 6, 2));
    }

    static void promise08EachCellOfACopyIsAsThatAhead() {
        // With a first cell that isn't it would be 11, with a last one 13 below.
        cut(";data 9,9,1,2,3,8x7,7,1,2,3", 13, run(0, 2), plain(2, 3), run(5, 7), plain(12, 4));
        cut(";data 9,9,1,2,3,8x6,1,2,3,7,6", 14, run(0, 2), plain(2, 3), run(5, 6), copy(11, 3, 9), plain(14, 2));
    }

    static void promise08AllCellsOfACopyHaveTheSameDistance() {
        // 1, 2, 3 and 4, 5, 6 have unlike distances: two copies.
        cut(";data 1,2,3,9,9,4,5,6,8,8,1,2,3,4,5,6", 17, plain(0, 8), run(8, 2), copy(10, 3, 10), copy(13, 3, 8));
    }

    static void promise08APlainPieceHas1To8Cells() {
        // With nine it would be 12, with seven 12 below.
        cut(";data 1,2,3,4,5,6,7,8,10,9x7", 13, plain(0, 8), plain(8, 1), run(9, 7));
        cut(";data 1,2,3,4,5,6,7,8,9x8", 11, plain(0, 8), run(8, 8));
    }

    static void promise08EachSizeThatThereIs() {
        for (int size = 4; size <= 18; size++) {
            gives(of(";" + dataOf(size)), "squeezed 0", size);
        }
    }

    static void promise08PokedDataHaveAnotherSize() {
        SqueezedSwap x = of(";data 1x16");
        after(x, "poke 0 0 2");
        gives(x, "squeezed 0", 4);
        after(x, "poke 0 15 2");
        gives(x, "squeezed 0", 6);
        after(x, "poke 0 0 1", "poke 0 15 1");
        gives(x, "squeezed 0", 2);
    }

    // ---- promise 9: pieces

    static void promise09DataGoUpToThoseTold() {
        bounds(1, "pieces #", 0, 5);
        bounds(EdgesOfDataTest::withTen, 1, "pieces #", 0, 9);
        refuses(Checks::withoutData, 1, "pieces 0");
    }

    static void promise09OnePieceIsTheFewestAndEightAreManyOnes() {
        gives(of(";data 5x16"), "pieces 0", 1);
        gives(of(PAIRS), "pieces 0", 8);
    }

    static void promise09ThePiecesAreThoseOfTheCutNotTheFewest() {
        gives(told(), "pieces 5", 3);
    }

    // ---- promise 10: piece

    static void promise10DataGoUpToThoseTold() {
        bounds(1, "piece # 0 0", 0, 5);
        bounds(EdgesOfDataTest::withTen, 1, "piece # 0 3", 0, 9);
        refuses(Checks::withoutData, 1, "piece 0 0 0");
    }

    static void promise10PiecesGoUpToHowManyThereAre() {
        bounds(1, "piece 0 # 0", 0, 0);
        bounds(1, "piece 1 # 0", 0, 2);
        bounds(() -> of(PAIRS), 1, "piece 0 # 3", 0, 7);
    }

    static void promise10WhatGoesFrom0To3() {
        bounds(1, "piece 1 2 #", 0, 3);
    }

    static void promise10RunsComeAheadOfCopiesAndPlainOnes() {
        // From cell 7 on a run, a copy of three and a plain piece of five would all cost 8 with the rest.
        cut(";data 1,1,2,9x4,1,1,2,5,6,8x4", 14, run(0, 2), plain(2, 1), run(3, 4), run(7, 2), plain(9, 3), run(12, 4));
    }

    static void promise10CopiesComeAheadOfPlainOnes() {
        cut(";data 1,2,3,4,5,6,7,8,1,2,9x6", 14, plain(0, 8), copy(8, 2, 8), run(10, 6));
    }

    static void promise10OfPlainOnesTheLongestComesFirst() {
        cut(";data 1,1,2,1,1,2,9x10", 9, run(0, 2), plain(2, 4), run(6, 10));
        cut(";data 1,2,3,4,5,6,7,8,10,11,9x6", 14, plain(0, 8), plain(8, 2), run(10, 6));
    }

    static void promise10OfCopiesTheLongestComesFirst() {
        cut(PERIOD, 11, plain(0, 4), copy(4, 8, 4), copy(12, 4, 4));
    }

    static void promise10OfRunsTheLongestComesFirst() {
        cut(";data 5x8,6x8", 4, run(0, 8), run(8, 8));
    }

    static void promise10OfLikeCopiesTheLeastDistanceCounts() {
        // 1, 2, 3 stand 10 and 5 cells ahead.
        cut(";data 1,2,3,8,8,1,2,3,7,7,1,2,3,9x3", 16, plain(0, 8), run(8, 2), copy(10, 3, 5), run(13, 3));
    }

    static void promise10WithoutACopyTheDistanceIs0() {
        row(told(), "piece 0 0", 0, 0, 16, 0);
        row(told(), "piece 3 1", 2, 8, 8, 0);
    }

    // ---- promise 11: fewest

    static void promise11DataGoUpToThoseTold() {
        bounds(1, "fewest #", 0, 5);
        bounds(EdgesOfDataTest::withTen, 1, "fewest #", 0, 9);
        refuses(Checks::withoutData, 1, "fewest 0");
    }

    static void promise11OneIsTheFewest() {
        gives(of(";data 5x16"), "fewest 0", 1);
    }

    static void promise11OfEachOfTheData() {
        row(told(), "fewest", 1, 3, 2, 2, 2, 2);
    }

    static void promise11TheFirstPieceNeedNotBeTheLongest() {
        // A run, seven plain cells, a run; by a longer first piece, five plain cells, it takes four.
        gives(of(";data 4,4,1,4,4,2x3,1,5x7"), "squeezed 0", 12);
        gives(of(";data 4,4,1,4,4,2x3,1,5x7"), "fewest 0", 3);
    }

    static void promise11FewerThanTheCutHas() {
        gives(told(), "fewest 5", 2);
        gives(of(";data 1,1,2,1,1,2,9x10"), "fewest 0", 2);
        gives(of(";data 1,1,2,9x4,1,1,2,5,6,8x4"), "fewest 0", 4);
    }

    static void promise11NoFewerThanBySize() {
        // Two plain pieces would be fewer, but dearer.
        gives(of(PAIRS), "fewest 0", 8);
        gives(told(), "fewest 3", 2);
    }

    // ---- promise 12: rest

    static void promise12DataGoUpToThoseTold() {
        bounds(1, "rest # 0", 0, 5);
        bounds(EdgesOfDataTest::withTen, 1, "rest # 15", 0, 9);
        refuses(Checks::withoutData, 1, "rest 0 0");
    }

    static void promise12CellsGoFrom0To15() {
        bounds(1, "rest 1 #", 0, 15);
    }

    static void promise12TheFirstIsTheSizeAndTheLast2() {
        row(of(";data 3x16"), "rest 0", 2, 2, 2, 2, 2, 2, 2, 2, 2, 2, 2, 2, 2, 2, 2, 2);
        row(told(), "rest 3", 18, 17, 16, 15, 14, 13, 12, 11, 9, 8, 7, 6, 5, 4, 3, 2);
    }

    static void promise12CopiesMayBeOfCellsAhead() {
        row(of(PERIOD), "rest 0", 11, 10, 9, 8, 6, 6, 6, 5, 3, 3, 3, 3, 3, 3, 3, 2);
        row(of(";data 1,2,9x12,1,2"), "rest 0", 8, 7, 5, 5, 5, 5, 5, 5, 5, 5, 5, 5, 5, 4, 3, 2);
    }

    // ---- promise 13: ranked

    static void promise13RanksGoUpToHowManyDataThereAre() {
        bounds(1, "ranked #", 0, 5);
        bounds(EdgesOfDataTest::withTen, 1, "ranked #", 0, 9);
        refuses(Checks::withoutData, 1, "ranked 0");
    }

    static void promise13OfLikeSizesTheLeastNumberIsFirst() {
        row(withTen(), "ranked", 0, 1, 2, 3, 4, 5, 6, 7, 8, 9);
        row(told(swapOf(4, 2, 12, 18, 4, 11, 4, 2, 18, 7, 7, 5, 2)), "ranked", 4, 9, 1, 3, 8, 6, 7, 2, 0, 5);
    }

    static void promise13PokedDataHaveAnotherRank() {
        SqueezedSwap x = withTen();
        x.poke(0, 3, 2);
        row(x, "ranked", 1, 2, 3, 4, 5, 6, 7, 8, 9, 0);
        x.undo();
        row(x, "ranked", 0, 1, 2, 3, 4, 5, 6, 7, 8, 9);
    }

    // ---- promise 14: sort

    static void promise14DataGoUpToThoseTold() {
        bounds(1, "sort #", 0, 5);
        bounds(EdgesOfDataTest::withTen, 1, "sort #", 0, 9);
        refuses(Checks::withoutData, 1, "sort 0");
    }

    static void promise14ASizeAsBigIsNotAboveIt() {
        for (int big = 4; big <= 15; big++) {
            SqueezedSwap x = told(swapOf(1, 1, big, big, big + 1, 18, 2));
            row(x, "sort", 0, 2, 2, 1);
        }
    }

    static void promise14OneCellThatDiffersIsEnough() {
        for (int i = 0; i < 16; i++) {
            SqueezedSwap x = of(";data 1x16");
            gives(x, "sort 0", 1);
            x.poke(0, i, 2);
            gives(x, "sort 0", 0);
            x.poke(0, i, 1);
            gives(x, "sort 0", 1);
        }
    }
}
