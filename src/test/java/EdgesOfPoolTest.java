/** The edges of promises 21 to 29: zones, slots, pages, ages, totals. */
public final class EdgesOfPoolTest extends Checks {
    public static void main(String[] args) {
        runAll(EdgesOfPoolTest.class);
    }

    // ---- promise 21: zone

    static void promise21ZonesGoUpToThoseThereAre() {
        bounds(1, "zone # 0", 0, 2);
        bounds(Checks::fullOfZones, 1, "zone # 0", 0, 23);
        refuses(Checks::told, 1, "zone 0 0", "zone 0 1", "zone 0 2");
    }

    static void promise21WhatGoesFrom0To2() {
        bounds(1, "zone 2 #", 0, 2);
        row(rich(), "zone 2", 12, 3, 1);
        row(rich(), "zone 0", 8, 1, 2);
    }

    static void promise21AZoneThatWentIsNone() {
        refuses(() -> after(rich(), "drop 0"), 1, "zone 2 0", "zone 2 2");
        refuses(() -> after(rich(), "drop 5"), 1, "zone 1 0");
        row(after(rich(), "drop 5"), "zone 2", 12, 3, 1);
    }

    static void promise21AZoneGoesWithItsLastPage() {
        SqueezedSwap x = after(rich(), "drop 4");
        gives(x, "zone 0 2", 1);
        x.drop(1);
        refused(x, "zone(0, 2)", x.zone(0, 2), 1);
    }

    static void promise21TheLeastNumberIsHadAgain() {
        SqueezedSwap x = after(fullOfZones(), "drop 5", "drop 3", "drop 11", "store 24 1", "store 25 0");
        gives(x, "pooled 24 1", 3);
        gives(x, "pooled 25 1", 5);
        row(x, "zone 3", 4, 1, 1);
        refused(x, "zone(11, 0)", x.zone(11, 0), 1);
    }

    // ---- promise 22: slot

    static void promise22ZonesGoUpToThoseThereAre() {
        bounds(1, "slot # 0", 0, 2);
        bounds(Checks::fullOfZones, 1, "slot # 0", 0, 23);
        refuses(Checks::told, 1, "slot 0 0");
    }

    static void promise22SlotsGoUpToThoseOfTheClass() {
        bounds(1, "slot 0 #", 0, 1);
        bounds(1, "slot 1 #", 0, 3);
        bounds(1, "slot 2 #", 0, 3);
        bounds(Checks::fullOfZones, 1, "slot 23 #", 0, 0);
        bounds(() -> stores(told(swapOf(4, 1, 15, 7)), 0, 1, 0), 1, "slot 0 #", 0, 8);
    }

    static void promise22AFreeSlotIsMinus2() {
        row(rich(), "slot 1", -2, 5, -2, -2);
        row(rich(), "slot 0", 4, 1);
    }

    static void promise22AFullZoneHasNoFreeSlot() {
        SqueezedSwap x = stores(told(swapOf(4, 1, 15, 7)), 0, 9, 0);
        row(x, "slot 0", 0, 1, 2, 3, 4, 5, 6, 7, 8);
        x.drop(8);
        gives(x, "slot 0 8", -2);
    }

    static void promise22ASlotOfTheOldZoneIsFreeInTheNewOne() {
        SqueezedSwap x = after(fullOfPages(), "drop 0", "drop 1", "drop 2", "drop 3", "store 3 1");
        row(x, "slot 0", 3, -2);
        refused(x, "slot(0, 2)", x.slot(0, 2), 1);
    }

    // ---- promise 23: page

    static void promise23PagesGoFrom0To29() {
        bounds(1, "page #", 0, 29);
    }

    static void promise23EachPlace() {
        row(rich(), "page", 2, 2, 1, 3, 2, 2, 3, 0, 0, 0);
    }

    // ---- promise 24: pooled

    static void promise24PagesGoFrom0To29() {
        bounds(Checks::fullOfPages, 1, "pooled # 0", 0, 29);
        row(fullOfPages(), "pooled 29", 4, 7, 1, 29, 0);
    }

    static void promise24WhatGoesFrom0To4() {
        bounds(1, "pooled 1 #", 0, 4);
        row(rich(), "pooled 1", 7, 0, 1, 1, 1);
        row(rich(), "pooled 0", 11, 2, 0, 0, 0);
    }

    static void promise24NotInThePoolIsRefusedBy5() {
        refuses(5, "pooled 2 0", "pooled 3 0", "pooled 6 4", "pooled 7 0", "pooled 29 3");
    }

    static void promise24Refusal1ComesAheadOf5() {
        refuses(1, "pooled 2 5", "pooled 3 -1", "pooled 7 5", "pooled 30 5");
    }

    static void promise24HowManyAreColder() {
        SqueezedSwap x = fullOfPages();
        for (int p = 0; p < 30; p++) {
            gives(x, "pooled " + p + " 3", p);
        }
        x.load(0);
        gives(x, "pooled 0 3", 29);
        gives(x, "pooled 1 3", 0);
        x.writeBack(1);
        gives(x, "pooled 0 3", 28);
    }

    // ---- promise 25: read

    static void promise25PagesGoFrom0To29() {
        bounds(Checks::fullOfPages, 1, "read # 0", 0, 29);
    }

    static void promise25CellsGoFrom0To15() {
        bounds(1, "read 0 #", 0, 15);
        bounds(1, "read 2 #", 0, 15);
        bounds(1, "read 3 #", 0, 15);
    }

    static void promise25APageThatIsNowhereIsRefusedBy5() {
        refuses(5, "read 7 0", "read 29 15");
        refuses(() -> after(rich(), "drop 2"), 5, "read 2 0");
    }

    static void promise25Refusal1ComesAheadOf5() {
        refuses(1, "read 7 16", "read 7 -1");
    }

    static void promise25WordsAndPagesOnDiskAreReadToo() {
        SqueezedSwap x = rich();
        gives(x, "read 2 0", 7);
        gives(x, "read 2 15", 7);
        gives(x, "read 3 0", 1);
        gives(x, "read 3 15", 16);
        gives(x, "read 6 3", 4);
    }

    static void promise25ItIsNoLoading() {
        changesNothing("read 0 0", "read 2 0", "read 3 0");
    }

    static void promise25WhatWasStoredStaysAsItWas() {
        SqueezedSwap x = after(rich(), "poke 1 0 99", "poke 0 0 98", "poke 3 0 97");
        gives(x, "read 0 0", 1);
        gives(x, "read 2 0", 7);
        gives(x, "read 3 0", 1);
    }

    // ---- promise 26: aged

    static void promise26AgesGoUpToHowManyPagesThePoolHas() {
        bounds(1, "aged #", 0, 3);
        bounds(Checks::fullOfPages, 1, "aged #", 0, 29);
        bounds(() -> after(told(), "store 0 1"), 1, "aged #", 0, 0);
    }

    static void promise26AnEmptyPoolHasNoAges() {
        refuses(Checks::told, 1, "aged 0");
        refuses(() -> after(told(), "store 2 0", "store 3 3"), 1, "aged 0");
    }

    static void promise26WordsAndPagesOnDiskHaveNoAge() {
        row(rich(), "aged", 0, 1, 4, 5);
    }

    static void promise26LoadedOrStoredItIsTheYoungest() {
        row(after(rich(), "load 0"), "aged", 1, 4, 5, 0);
        row(after(rich(), "load 5"), "aged", 0, 1, 4, 5);
        row(after(rich(), "store 4 5"), "aged", 0, 1, 5, 4);
        row(after(rich(), "load 2", "load 3"), "aged", 0, 1, 4, 5);
    }

    // ---- promise 27: total

    static void promise27WhatGoesFrom0To3() {
        bounds(1, "total #", 0, 3);
    }

    static void promise27AtFirstAllAre0() {
        row(told(), "total", 0, 0, 0, 0);
        row(after(told(), "store 0 1", "store 2 0", "load 0", "load 2", "drop 0"), "total", 0, 0, 0, 0);
    }

    static void promise27EachPageEachTimeOne() {
        row(rich(), "total", 2, 1, 1, 1);
        row(after(rich(), "load 3", "load 3", "load 6"), "total", 2, 1, 4, 1);
        row(after(rich(), "store 3 3", "store 3 3"), "total", 4, 1, 1, 1);
        row(after(rich(), "writeBack 2"), "total", 4, 1, 1, 1);
        row(after(rich(), "limit 2"), "total", 3, 2, 1, 1);
    }

    // ---- promise 28: same

    static void promise28PagesGoFrom0To29() {
        bounds(Checks::fullOfPages, 1, "same # 0", 0, 29);
        bounds(Checks::fullOfPages, 1, "same 0 #", 0, 29);
    }

    static void promise28EitherIsNowhereIsRefusedBy5() {
        refuses(5, "same 7 0", "same 0 7", "same 7 7", "same 7 8");
    }

    static void promise28Refusal1ComesAheadOf5() {
        refuses(1, "same 7 30", "same 30 7", "same -1 7", "same 7 -1");
    }

    static void promise28APageIsAsItself() {
        gives(rich(), "same 0 0", 1);
        gives(rich(), "same 2 2", 1);
        gives(rich(), "same 3 3", 1);
    }

    static void promise28WhereverTheyAre() {
        SqueezedSwap x = rich();
        gives(x, "same 0 6", 1);
        gives(x, "same 1 4", 1);
        gives(x, "same 2 3", 0);
        gives(x, "same 0 1", 0);
    }

    static void promise28EachCellCounts() {
        for (int i = 0; i < 16; i++) {
            SqueezedSwap x = after(told(), "store 0 2", "poke 2 " + i + " 50", "store 1 2");
            gives(x, "same 0 1", 0);
            gives(x, "same 1 0", 0);
        }
    }

    // ---- promise 29: waste

    static void promise29OfAnEmptyPoolNothingIsWasted() {
        gives(told(), "waste", 0);
        gives(after(told(), "store 2 0", "store 3 3"), "waste", 0);
    }

    static void promise29OfAZoneThatIsAllTakenNothingIsWasted() {
        SqueezedSwap x = stores(told(swapOf(8, 4, 15, 4, 7, 8)), 0, 3, 0);
        gives(x, "waste", 4);
        x.store(3, 0);
        gives(x, "waste", 0);
        after(x, "store 4 2", "store 5 2");
        gives(x, "waste", 0);
    }

    static void promise29WhatTheSizeDoesNotTakeOfASlotIsWastedToo() {
        SqueezedSwap x = stores(told(swapOf(8, 4, 15, 4, 7, 8)), 0, 2, 1);
        gives(x, "waste", 2);
        gives(fullOfZones(), "waste", 72);
        gives(rich(), "waste", 5 * 16 - 11 - 7 - 7 - 4);
    }
}
