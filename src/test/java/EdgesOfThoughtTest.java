/** The edges of promises 30 to 37: what would go, be pushed, be foretold. */
public final class EdgesOfThoughtTest extends Checks {
    public static void main(String[] args) {
        runAll(EdgesOfThoughtTest.class);
    }

    private static SqueezedSwap held(SqueezedSwap x, int first, int end) {
        for (int p = first; p < end; p++) {
            x.hold(p);
        }
        return x;
    }

    // ---- promise 30: would

    static void promise30LimitsGoFrom1To24() {
        bounds(2, "would # 0", 1, 24);
        bounds(2, "would # 1", 1, 24);
    }

    static void promise30OfAnEmptyPoolNoneGo() {
        gives(told(), "would 1 0", 0);
        gives(told(), "would 1 1", 0);
    }

    static void promise30ByAsManyFramesAsThereAreNoneGo() {
        SqueezedSwap x = fullOfZones();
        gives(x, "would 24 0", 0);
        gives(x, "would 23 0", 1);
        gives(x, "would 1 0", 23);
        gives(rich(), "would 5 0", 0);
        gives(rich(), "would 4 0", 1);
    }

    static void promise30PagesGoTillAZoneDoes() {
        SqueezedSwap x = zones(2);
        gives(x, "would 2 0", 0);
        gives(x, "would 1 0", 4);
        x.load(0);
        gives(x, "would 1 0", 7);
    }

    static void promise30HeldOnesStay() {
        SqueezedSwap x = held(fullOfZones(), 0, 23);
        gives(x, "would 23 0", 1);
        gives(x, "would 1 0", 1);
        x.hold(23);
        gives(x, "would 1 0", 0);
        gives(x, "would 1 1", 0);
    }

    static void promise30CompactedFirstOrNot() {
        SqueezedSwap x = after(zones(2), "drop 0", "drop 1", "drop 4", "drop 5");
        gives(x, "would 1 0", 2);
        gives(x, "would 1 1", 0);
    }

    static void promise30WouldChangesNothing() {
        changesNothing("would 1 0", "would 1 1", "would 24 1", "would 4 0");
    }

    // ---- promise 31: freeing

    static void promise31AnEmptyPoolIsMinus2() {
        gives(told(), "freeing", -2);
        gives(after(told(), "store 2 0", "store 3 3"), "freeing", -2);
    }

    static void promise31OnePageMayBeEnoughOrAllButOneOfEachZone() {
        gives(fullOfZones(), "freeing", 1);
        gives(zones(1), "freeing", 4);
        gives(zones(2), "freeing", 4);
        gives(after(zones(2), "load 0"), "freeing", 7);
        SqueezedSwap x = zones(7);
        for (int p = 0; p < 28; p += 4) {
            x.load(p);
        }
        gives(x, "freeing", 22);
    }

    static void promise31IfAllAreHeldItIsMinus2() {
        gives(held(zones(2), 0, 8), "freeing", -2);
    }

    static void promise31IfOneOfEachZoneIsHeldItIsMinus2() {
        SqueezedSwap x = after(zones(2), "hold 3", "hold 4");
        gives(x, "freeing", -2);
        x.release(4);
        gives(x, "freeing", 7);
        after(x, "hold 4", "release 3");
        gives(x, "freeing", 4);
    }

    static void promise31FreeingChangesNothing() {
        changesNothing("freeing");
    }

    // ---- promise 32: holds

    static void promise32OfAnEmptyPoolItIs1() {
        gives(told(), "holds 0", 1);
        gives(told(), "holds 1", 1);
        gives(after(told(), "store 2 0", "store 3 3"), "holds 0", 1);
    }

    static void promise32ItIsFrom1To24() {
        gives(zones(1), "holds 0", 1);
        gives(zones(2), "holds 0", 2);
        gives(fullOfZones(), "holds 0", 24);
        gives(fullOfZones(), "holds 1", 24);
    }

    static void promise32ItMayBeAboveTheLimit() {
        SqueezedSwap x = after(held(zones(2), 0, 8), "limit 1", "release 0");
        gives(x, "holds 0", 2);
    }

    static void promise32IfAllAreHeldItIs1() {
        SqueezedSwap x = held(fullOfZones(), 0, 24);
        gives(x, "holds 0", 1);
        gives(x, "holds 1", 1);
        x.release(11);
        gives(x, "holds 0", 24);
    }

    static void promise32CompactedFirstOrNot() {
        SqueezedSwap x = after(zones(3), "drop 0", "drop 1", "drop 4", "drop 5");
        gives(x, "holds 0", 3);
        gives(x, "holds 1", 2);
    }

    static void promise32HoldsChangesNothing() {
        changesNothing("holds 0", "holds 1");
    }

    // ---- promise 33: pushes

    static void promise33PagesGoFrom0To29() {
        bounds(1, "pushes # 1", 0, 29);
    }

    static void promise33DataGoUpToThoseTold() {
        bounds(1, "pushes 0 #", 0, 5);
        refuses(Checks::withoutData, 1, "pushes 0 0");
    }

    static void promise33IfThereIsRoomNoneArePushed() {
        SqueezedSwap x = zones(2);
        gives(x, "pushes 9 0", 0);
        x.limit(2);
        gives(x, "pushes 9 0", 1);
        x.drop(5);
        gives(x, "pushes 9 0", 0);
    }

    static void promise33WordsAndWhatIsTooBigPushNone() {
        SqueezedSwap x = after(zones(2), "limit 2");
        gives(x, "pushes 9 2", 0);
        gives(x, "pushes 9 3", 0);
    }

    static void promise33ByStepAndBigAsTold() {
        // Of size 7 a zone has one frame by step 4; above BIG there is none.
        SqueezedSwap x = told(swapOf(1, 4, 7, 7, 8) + ";store 0 0");
        gives(x, "pushes 0 0", 0);
        gives(x, "foretold 1 1 1", 1);
        gives(x, "pushes 0 0", 0);
        x = told(swapOf(1, 1, 6, 7));
        gives(x, "pushes 0 0", 0);
        x = told(swapOf(1, 1, 7, 7));
        gives(x, "pushes 0 0", 1);
    }

    static void promise33ThePageItselfIsDroppedFirst() {
        SqueezedSwap x = after(zones(2), "limit 2");
        gives(x, "pushes 0 0", 0);
        gives(x, "pushes 9 0", 1);
        x.hold(0);
        gives(x, "pushes 0 0", 0);
    }

    static void promise33AsManyAsItTakes() {
        // Of class 7 a zone has four frames.
        SqueezedSwap x = after(zones(4), "limit 4");
        gives(x, "pushes 29 1", 16);
        x.limit(5);
        gives(x, "pushes 29 1", 12);
        x.limit(8);
        gives(x, "pushes 29 1", 0);
    }

    static void promise33ItselfIsCountedToo() {
        SqueezedSwap x = after(zones(3), "limit 3");
        gives(x, "pushes 29 1", 13);
        held(x, 0, 12);
        gives(x, "pushes 29 1", 1);
    }

    /** 29 pages above the limit, none held any more. */
    private static SqueezedSwap aboveTheLimit() {
        SqueezedSwap x = after(held(stores(zones(7), 28, 29, 0), 0, 29), "limit 3");
        for (int p = 0; p < 29; p++) {
            x.release(p);
        }
        return x;
    }

    static void promise33AllThirtyPagesMayBePushed() {
        SqueezedSwap x = aboveTheLimit();
        gives(x, "about 5", 8);
        gives(x, "pushes 29 1", 30);
        gives(x, "store 29 1", 3);
        gives(x, "total 1", 30);
    }

    static void promise33PushesChangesNothing() {
        changesNothing("pushes 0 1", "pushes 7 2", "pushes 29 5", "pushes 1 0");
    }

    // ---- promise 34: pushed

    static void promise34PagesGoFrom0To29() {
        bounds(() -> after(zones(7), "limit 7", "hold 0", "hold 1", "hold 2"), 1, "pushed # 1 0", 0, 29);
    }

    static void promise34DataGoUpToThoseTold() {
        bounds(() -> after(told(swapOf(1, 1, 15, 7, 7)), "store 0 0"), 1, "pushed 0 # 0", 0, 1);
        refuses(Checks::withoutData, 1, "pushed 0 0 0");
    }

    static void promise34IGoesUpToHowManyArePushed() {
        bounds(() -> after(zones(3), "limit 3"), 1, "pushed 29 1 #", 0, 12);
        bounds(() -> after(zones(4), "limit 4"), 1, "pushed 29 1 #", 0, 15);
        bounds(() -> after(zones(2), "limit 2"), 1, "pushed 29 0 #", 0, 0);
        refuses(() -> zones(2), 1, "pushed 29 0 0");
    }

    static void promise34TheColdestFirstItselfLast() {
        SqueezedSwap x = after(zones(3), "limit 3", "load 5");
        row(x, "pushed 29 1", 0, 1, 2, 3, 4, 6, 7, 8, 9, 10, 11, 5, 29);
        x.hold(0);
        row(x, "pushed 29 1", 1, 2, 3, 4, 6, 7, 8, 9, 10, 11, 5, 29);
    }

    static void promise34AllThirtyPages() {
        SqueezedSwap x = aboveTheLimit();
        for (int i = 0; i < 30; i++) {
            gives(x, "pushed 29 1 " + i, i);
        }
        refused(x, "pushed(29, 1, 30)", x.pushed(29, 1, 30), 1);
    }

    static void promise34PushedChangesNothing() {
        changesNothing("pushed 7 2 0", "pushed 29 2 1");
    }

    // ---- promise 35: foretold

    static void promise35LimitsGoFrom1To24() {
        bounds(2, "foretold # 2 0", 1, 24);
    }

    static void promise35StepsGoFrom1To4() {
        bounds(2, "foretold 4 # 0", 1, 4);
    }

    static void promise35WhatGoesFrom0To2() {
        bounds(1, "foretold 4 2 #", 0, 2);
    }

    static void promise35Refusal1ComesAheadOf2() {
        refuses(1, "foretold 0 2 3", "foretold 25 5 -1", "foretold 4 0 3");
    }

    static void promise35WithoutOpsAllAre0() {
        row(told(HEAD + DATA), "foretold 1 1", 0, 0, 0);
    }

    static void promise35FromNothingAtAll() {
        SqueezedSwap x = filled();
        row(x, "foretold 4 2", 1, 0, 0);
        row(x, "foretold 2 2", 2, 1, 1);
        after(x, "limit 1", "writeBack 30", "load 0", "load 0");
        row(x, "foretold 4 2", 1, 0, 0);
        row(x, "foretold 2 2", 2, 1, 1);
    }

    static void promise35OfTheseAlone() {
        SqueezedSwap x = told(HEAD + DATA + ";load 1;drop 2;load 3");
        row(after(x, "store 1 3", "store 3 3"), "foretold 4 2", 0, 0, 0);
    }

    static void promise35AllTwentyFourOps() {
        SqueezedSwap x = told(HEAD + ";" + dataOf(18) + ";store 3 0;load 3;load 3".repeat(8));
        row(x, "foretold 24 1", 8, 0, 16);
    }

    static void promise35EachLimitAndStepCounts() {
        // Of size 7 a zone has 4 frames by 1, one by 2, 4 by 3 (class 9), one by 4.
        SqueezedSwap x = told(swapOf(1, 1, 15, 7) + ";store 0 0");
        int[][] pushed = {{1, 1, 1, 0}, {0, 0, 0, 0}, {1, 1, 1, 0}, {0, 0, 0, 0}};
        for (int step = 1; step <= 4; step++) {
            for (int limit = 1; limit <= 4; limit++) {
                gives(x, "foretold " + limit + " " + step + " 1", pushed[step - 1][limit - 1]);
            }
        }
    }

    static void promise35WithDataAsTheyAreNowAndBigAsTold() {
        SqueezedSwap x = told(swapOf(24, 1, 4, 4) + ";store 0 0");
        gives(x, "foretold 24 1 0", 0);
        x.poke(0, 8, 50);
        gives(x, "foretold 24 1 0", 1);
        x.undo();
        gives(x, "foretold 24 1 0", 0);
    }

    static void promise35ForetoldChangesNothing() {
        changesNothing("foretold 1 1 0", "foretold 4 2 1", "foretold 24 4 2");
    }

    // ---- promise 36: enough

    private static String storesOf(int data, int first, int end) {
        StringBuilder text = new StringBuilder();
        for (int p = first; p < end; p++) {
            text.append(";store ").append(p).append(' ').append(data);
        }
        return text.toString();
    }

    static void promise36WithoutOpsItIs1() {
        gives(told(HEAD + DATA), "enough", 1);
        gives(told(HEAD + ";load 1;drop 2"), "enough", 1);
    }

    static void promise36WordsAndWhatIsTooBigNeedNoLimit() {
        gives(told(swapOf(4, 1, 4, 2, 18) + storesOf(0, 0, 12) + storesOf(1, 12, 24)), "enough", 1);
    }

    static void promise36TheLeastLimit() {
        gives(told(swapOf(1, 1, 15, 13) + storesOf(0, 0, 1)), "enough", 1);
        gives(told(swapOf(1, 1, 15, 13) + storesOf(0, 0, 2)), "enough", 2);
        gives(told(swapOf(1, 1, 15, 13) + storesOf(0, 0, 23)), "enough", 23);
        gives(told(swapOf(1, 1, 15, 13) + storesOf(0, 0, 24)), "enough", 24);
        gives(told(swapOf(24, 1, 15, 13) + storesOf(0, 0, 2) + ";drop 0;store 3 0"), "enough", 2);
    }

    static void promise36NoLimitIsMinus2() {
        gives(told(swapOf(1, 1, 15, 13, 11) + storesOf(0, 0, 21) + storesOf(1, 21, 22)), "enough", 24);
        gives(told(swapOf(1, 1, 15, 13, 11) + storesOf(0, 0, 22) + storesOf(1, 22, 23)), "enough", -2);
    }

    static void promise36TheStepIsTheOneTold() {
        gives(told(swapOf(1, 1, 15, 7) + ";store 0 0"), "enough", 4);
        gives(told(swapOf(1, 2, 15, 7) + ";store 0 0"), "enough", 1);
        gives(told(swapOf(1, 3, 15, 7) + ";store 0 0"), "enough", 4);
        gives(told(swapOf(1, 4, 15, 7) + ";store 0 0"), "enough", 1);
    }

    static void promise36AnotherLimitIsNothingToIt() {
        SqueezedSwap x = told();
        gives(x, "enough", 4);
        x.limit(24);
        gives(x, "enough", 4);
        after(x, "limit 1", "store 0 1");
        gives(x, "enough", 4);
    }

    static void promise36EnoughChangesNothing() {
        changesNothing("enough");
    }

    // ---- promise 37: op

    static void promise37OpsGoUpToThoseTold() {
        bounds(1, "op # 0", 0, 4);
        bounds(() -> told(HEAD + ";load 1".repeat(24)), 1, "op # 2", 0, 23);
        refuses(() -> told(HEAD + DATA), 1, "op 0 0", "op 0 1", "op 0 2");
    }

    static void promise37WhatGoesFrom0To2() {
        bounds(1, "op 0 #", 0, 2);
        bounds(1, "op 3 #", 0, 2);
    }

    static void promise37WithoutDataItIsMinus2() {
        SqueezedSwap x = told(HEAD + DATA + ";store 29 5;load 0;drop 29;store 0 0");
        row(x, "op 0", 0, 29, 5);
        row(x, "op 1", 1, 0, -2);
        row(x, "op 2", 2, 29, -2);
        row(x, "op 3", 0, 0, 0);
    }
}
