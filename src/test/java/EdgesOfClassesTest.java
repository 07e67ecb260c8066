import java.util.function.Supplier;

/** The edges of promises 15 to 20: homes, classes, and what would come next or be gained. */
public final class EdgesOfClassesTest extends Checks {
    public static void main(String[] args) {
        runAll(EdgesOfClassesTest.class);
    }

    private static Supplier<SqueezedSwap> ofStep(int step) {
        return () -> told("swap frames 24 step " + step + " big 15");
    }

    /** Zones of a frame and four slots; data 1 and 2: classes 8 and 12. */
    private static SqueezedSwap zonesOf4(int... pages) {
        return thinned(stores(told(swapOf(24, 4, 15, 4, 7, 11)), 0, pages.length * 4, 0), pages);
    }

    // ---- promise 15: home

    static void promise15SizesGoFrom2To15() {
        bounds(2, "home #", 2, 15);
        for (int step = 1; step <= 4; step++) {
            refuses(ofStep(step), 2, "home 1", "home 16", "home 0", "home -1");
        }
    }

    static void promise15TheLeastClassThatIsNoLess() {
        int[][] want = {{2, 3, 4, 5, 6, 7, 8, 9, 10, 11, 12, 13, 14, 15},
            {2, 4, 4, 6, 6, 8, 8, 10, 10, 12, 12, 14, 14, 16},
            {3, 3, 6, 6, 6, 9, 9, 9, 12, 12, 12, 15, 15, 15},
            {4, 4, 4, 8, 8, 8, 8, 12, 12, 12, 12, 16, 16, 16}};
        for (int step = 1; step <= 4; step++) {
            for (int size = 2; size <= 15; size++) {
                gives(ofStep(step).get(), "home " + size, want[step - 1][size - 2]);
            }
        }
    }

    static void promise15SizesAboveBigHaveAHomeToo() {
        gives(told("swap frames 1 step 4 big 4"), "home 15", 16);
    }

    // ---- promise 16: sizes

    static void promise16ClassesGoUpTo16() {
        bounds(ofStep(1), 1, "sizes # 0", 1, 16);
        bounds(ofStep(2), 1, "sizes # 1", 2, 16);
        bounds(ofStep(3), 1, "sizes # 2", 3, 15);
        bounds(ofStep(4), 1, "sizes # 3", 4, 16);
    }

    static void promise16OnlyMultiplesOfTheStepAreClasses() {
        for (int step = 1; step <= 4; step++) {
            for (int s = -4; s <= 20; s++) {
                SqueezedSwap x = ofStep(step).get();
                x.sizes(s, 0);
                boolean isClass = s > 0 && s <= 16 && s % step == 0;
                due("trouble() of class " + s + " by step " + step, x.trouble(), isClass ? 0 : 1);
            }
        }
    }

    static void promise16WhatGoesFrom0To4() {
        bounds(1, "sizes 4 #", 0, 4);
    }

    static void promise16FramesOfWhichTheLeastPartIsLost() {
        int[] k = {1, 1, 3, 1, 1, 3, 4, 1, 4, 2, 3, 3, 1, 1, 1, 1};
        int[] slots = {16, 8, 16, 4, 3, 8, 9, 2, 7, 3, 4, 4, 1, 1, 1, 1};
        int[] rests = {0, 0, 0, 0, 1, 0, 1, 0, 1, 2, 4, 0, 3, 2, 1, 0};
        for (int s = 1; s <= 16; s++) {
            row(ofStep(1).get(), "sizes " + s, k[s - 1], slots[s - 1], rests[s - 1], 0, 0);
        }
    }

    static void promise16OfSeveralTheFewestFrames() {
        // The same part is lost: of 5 by one frame and four, of 10 by two and four, of 13 by all.
        gives(ofStep(1).get(), "sizes 5 0", 1);
        gives(ofStep(1).get(), "sizes 10 0", 2);
        gives(ofStep(1).get(), "sizes 13 0", 1);
    }

    static void promise16ZonesAndPagesOfAClass() {
        SqueezedSwap x = fullOfZones();
        row(x, "sizes 13", 1, 1, 3, 24, 24);
        row(x, "sizes 4", 1, 4, 0, 0, 0);
        x = zonesOf4(4, 4, 1);
        row(x, "sizes 4", 1, 4, 0, 3, 9);
        x.drop(8);
        row(x, "sizes 4", 1, 4, 0, 2, 8);
        after(x, "writeBack 30");
        row(x, "sizes 4", 1, 4, 0, 0, 0);
    }

    // ---- promise 17: gain

    static void promise17NothingIsGainedOfNothing() {
        gives(told(), "gain", 0);
        gives(after(told(), "store 2 0", "store 3 3"), "gain", 0);
    }

    static void promise17NothingIsGainedOfASingleZone() {
        gives(zonesOf4(1), "gain", 0);
        gives(zonesOf4(4), "gain", 0);
    }

    static void promise17NothingIsGainedIfOnlyOneIsNotFull() {
        gives(zonesOf4(4, 1), "gain", 0);
        gives(zonesOf4(4, 4, 3), "gain", 0);
    }

    static void promise17NothingIsGainedIfNoZoneGoes() {
        gives(zonesOf4(3, 3), "gain", 0);
        gives(zonesOf4(3, 2), "gain", 0);
    }

    static void promise17AZoneThatJustFitsIsGained() {
        gives(zonesOf4(3, 1), "gain", 1);
        gives(zonesOf4(2, 2), "gain", 1);
        gives(zonesOf4(1, 1, 1, 1), "gain", 3);
        gives(zonesOf4(1, 1, 1, 1, 1), "gain", 3);
    }

    static void promise17AllFramesOfAZoneAreGained() {
        // Class 12: three frames, four slots.
        SqueezedSwap x = stores(told(swapOf(24, 4, 15, 4, 7, 11)), 0, 5, 2);
        gives(x, "gain", 0);
        x.drop(0);
        gives(x, "gain", 3);
    }

    static void promise17ZonesOfUnlikeClassesAreNotJoined() {
        SqueezedSwap x = after(zonesOf4(1), "store 20 1", "store 21 2");
        gives(x, "about 6", 3);
        gives(x, "gain", 0);
    }

    static void promise17ClassesGainTogether() {
        SqueezedSwap x = stores(zonesOf4(1, 1), 10, 13, 1);
        x.drop(10);
        stores(x, 20, 25, 2);
        x.drop(20);
        gives(x, "gain", 1 + 1 + 3);
    }

    static void promise17HeldOnesAreMovedToo() {
        SqueezedSwap x = after(zonesOf4(3, 1), "hold 4");
        gives(x, "gain", 1);
    }

    static void promise17GainMovesNothing() {
        changesNothing("gain");
        changesNothing(() -> zonesOf4(2, 1, 1), "gain");
    }

    // ---- promise 18: next

    static void promise18SizesGoFrom2To15() {
        bounds(2, "next #", 2, 15);
    }

    static void promise18AZoneThatFillsTheLimitMayCome() {
        SqueezedSwap x = after(told(swapOf(4, 2, 15, 11)), "store 0 0");
        gives(x, "about 5", 3);
        gives(x, "next 4", 1);
        gives(x, "next 9", -2);
        gives(x, "next 13", 1);
        x.limit(5);
        gives(x, "next 9", 1);
        x.limit(3);
        gives(x, "next 4", -2);
    }

    static void promise18AZoneForWhichTheLimitIsTooLow() {
        gives(told("swap frames 3 step 1 big 15"), "next 7", -2);
        gives(told("swap frames 4 step 1 big 15"), "next 7", 0);
        gives(told("swap frames 1 step 2 big 15"), "next 10", -2);
        gives(told("swap frames 2 step 2 big 15"), "next 10", 0);
    }

    static void promise18AFreeSlotIsTakenEvenAboveTheLimit() {
        SqueezedSwap x = after(told(swapOf(4, 2, 15, 11, 4)), "store 0 0", "hold 0", "limit 1");
        gives(x, "about 5", 3);
        gives(x, "next 12", 0);
        gives(x, "next 4", -2);
    }

    static void promise18AFullZoneIsNotTaken() {
        gives(zonesOf4(3), "next 4", 0);
        gives(zonesOf4(4), "next 4", 1);
    }

    static void promise18TheZoneOfMostPagesOfSeveralTheLeastNumber() {
        gives(zonesOf4(1, 2, 3, 3, 4), "next 4", 2);
        gives(zonesOf4(1, 1), "next 4", 0);
        gives(zonesOf4(4, 2, 2), "next 4", 1);
    }

    static void promise18OneThatComesHasTheLeastNumberThatIsntHad() {
        SqueezedSwap x = zonesOf4(4, 4, 4);
        gives(x, "next 4", 3);
        gives(x, "next 8", 3);
        after(x, "drop 4", "drop 5", "drop 6");
        gives(x, "next 8", 3);
        x.drop(7);
        gives(x, "next 8", 1);
        gives(x, "next 4", 1);
    }

    static void promise18NoZoneComesToTheFullPool() {
        SqueezedSwap x = fullOfZones();
        gives(x, "next 13", -2);
        gives(x, "next 4", -2);
        x.drop(23);
        gives(x, "next 13", 23);
        x.drop(0);
        gives(x, "next 13", 0);
    }

    static void promise18NextBringsNothing() {
        changesNothing("next 4", "next 8", "next 12", "next 2", "next 15");
    }

    // ---- promise 19: coldest

    static void promise19OnlyClassesHaveAColdest() {
        bounds(ofStep(1), 1, "coldest #", 1, 16);
        bounds(ofStep(2), 1, "coldest #", 2, 16);
        bounds(ofStep(3), 1, "coldest #", 3, 15);
        bounds(ofStep(4), 1, "coldest #", 4, 16);
        refuses(1, "coldest 5", "coldest 3");
    }

    static void promise19WithoutAPageItIsMinus2() {
        gives(told(), "coldest 4", -2);
        SqueezedSwap x = zonesOf4(1);
        gives(x, "coldest 8", -2);
        gives(x, "coldest 4", 0);
        x.writeBack(1);
        gives(x, "coldest 4", -2);
    }

    static void promise19HeldOrNot() {
        SqueezedSwap x = zonesOf4(3);
        x.hold(0);
        gives(x, "coldest 4", 0);
        x.load(0);
        gives(x, "coldest 4", 1);
        x.store(1, 1);
        gives(x, "coldest 4", 2);
        gives(x, "coldest 8", 1);
    }

    static void promise19TheClassIsThatOfWhatWasStored() {
        SqueezedSwap x = zonesOf4(1);
        x.poke(0, 8, 50);
        gives(x, "coldest 4", 0);
    }

    // ---- promise 20: fittest

    static void promise20OfNothingItIs1() {
        for (int step = 1; step <= 4; step++) {
            gives(ofStep(step).get(), "fittest", 1);
        }
        gives(after(told(), "store 2 0", "store 3 3"), "fittest", 1);
    }

    static void promise20EachStepMayBeTheFittest() {
        int[] sizes = {4, 5, 6, 7, 9};
        gives(stores(told(swapOf(24, 4, 15, sizes)), 0, 1, 0), "fittest", 1);
        // One of size 7: 4, 1, 4, 1 frames.
        gives(stores(told(swapOf(24, 4, 15, sizes)), 0, 1, 3), "fittest", 2);
        // One of 4, one of 5, six of 6: 5, 4, 3, 5 frames.
        SqueezedSwap x = stores(told(swapOf(24, 4, 15, sizes)), 0, 6, 2);
        gives(after(x, "store 6 0", "store 7 1"), "fittest", 3);
        // Four of size 9: 4, 4, 4, 3 frames.
        gives(stores(told(swapOf(24, 1, 15, sizes)), 0, 4, 4), "fittest", 4);
    }

    static void promise20OfSeveralTheLeast() {
        // Of size 8: 1, 1, 4, 1 frames; of size 13: 1 by all.
        gives(stores(told(swapOf(24, 4, 15, 8)), 0, 1, 0), "fittest", 1);
        gives(stores(told(swapOf(24, 4, 15, 13)), 0, 1, 0), "fittest", 1);
    }

    static void promise20InAsFewZonesAsThereCanBe() {
        // Of size 7 ten take 8, 5, 8, 5 frames, nine 4, 5, 8, 5, seven 4 by all, six 4, 3, 4, 3; that they fill more
        // now is nothing.
        SqueezedSwap x = stores(told(swapOf(24, 4, 15, 7)), 0, 20, 0);
        for (int p = 1; p < 20; p += 2) {
            x.drop(p);
        }
        gives(x, "about 5", 10);
        gives(x, "fittest", 2);
        x.drop(0);
        gives(x, "fittest", 1);
        after(x, "drop 2", "drop 4");
        gives(x, "fittest", 1);
        x.drop(6);
        gives(x, "fittest", 2);
    }

    static void promise20FittestChangesNothing() {
        changesNothing("fittest");
        SqueezedSwap x = after(told(swapOf(24, 4, 15, 7)), "store 0 0");
        gives(x, "fittest", 2);
        gives(x, "about 1", 4);
    }
}
