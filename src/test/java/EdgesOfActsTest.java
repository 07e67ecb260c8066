import java.util.List;
import java.util.function.Supplier;

/** The edges of promises 38 to 48: storing, loading, dropping, holding, poking, writing back, compacting, undoing. */
public final class EdgesOfActsTest extends Checks {
    public static void main(String[] args) {
        runAll(EdgesOfActsTest.class);
    }

    /** Pages everywhere, one held, and few acts, so that one more is kept beside them. */
    private static SqueezedSwap few() {
        return after(filled(), "hold 1");
    }

    // ---- promise 38: store

    static void promise38PagesGoFrom0To29() {
        bounds(1, "store # 1", 0, 29);
    }

    static void promise38DataGoUpToThoseTold() {
        bounds(1, "store 0 #", 0, 5);
        refuses(Checks::withoutData, 1, "store 0 0");
    }

    static void promise38AllCellsAlikeAreAWord() {
        SqueezedSwap x = told(swapOf(1, 1, 4, 2));
        gives(x, "store 29 0", 1);
        row(x, "total", 0, 0, 0, 0);
        gives(x, "about 5", 0);
    }

    static void promise38ASizeAsBigComesIntoThePool() {
        for (int big = 4; big <= 15; big++) {
            SqueezedSwap x = told(swapOf(24, 1, big, big, big + 1));
            gives(x, "store 0 0", 2);
            row(x, "total", 0, 0, 0, 0);
            gives(x, "store 1 1", 3);
            row(x, "total", 1, 0, 0, 0);
        }
    }

    static void promise38AFreeSlotIsTakenAheadOfANewZone() {
        SqueezedSwap x = after(zonesWith(3), "store 20 0");
        gives(x, "about 6", 1);
        row(x, "slot 0", 0, 1, 2, 20);
        x.store(21, 0);
        gives(x, "about 6", 2);
        gives(x, "slot 1 0", 21);
    }

    static void promise38TheFirstFreeSlot() {
        SqueezedSwap x = after(zones(1), "drop 1", "drop 3", "store 20 0", "store 21 0");
        row(x, "slot 0", 0, 20, 2, 21);
    }

    static void promise38TheZoneOfMostPagesOfSeveralTheLeastNumber() {
        gives(after(zonesWith(1, 2, 2, 4), "store 20 0"), "pooled 20 1", 1);
        gives(after(zonesWith(2, 3, 1), "store 20 0"), "pooled 20 1", 1);
        gives(after(zonesWith(1, 1, 1), "store 20 0"), "pooled 20 1", 0);
    }

    static void promise38AZoneMayFillTheLimit() {
        SqueezedSwap x = after(zones(2), "limit 6");
        gives(x, "store 20 1", 2);
        gives(x, "about 5", 6);
        gives(x, "total 1", 0);
        x = after(zones(2), "limit 5");
        gives(x, "store 20 1", 2);
        gives(x, "about 5", 5);
        gives(x, "total 1", 4);
        row(x, "slot 1", 4, 5, 6, 7);
        gives(x, "pooled 20 1", 0);
    }

    static void promise38ASlotThatAPushFreesIsTaken() {
        SqueezedSwap x = after(zones(2), "limit 2", "load 0");
        gives(x, "store 20 0", 2);
        gives(x, "page 1", 3);
        gives(x, "about 9", 1);
        row(x, "slot 0", 0, 20, 2, 3);
    }

    static void promise38WithoutAnyToPushItselfIsOnDisk() {
        SqueezedSwap x = told(swapOf(3, 1, 15, 4, 7));
        gives(x, "store 0 1", 3);
        row(x, "total", 1, 1, 0, 0);
        stores(x, 1, 5, 0);
        gives(x, "store 0 1", 3);
        row(x, "total", 6, 6, 0, 0);
        gives(x, "about 7", 0);
        gives(x, "about 9", 5);
    }

    static void promise38HeldOnesAreNotPushed() {
        SqueezedSwap x = after(zones(1), "limit 1", "hold 0", "hold 1", "hold 2");
        gives(x, "store 20 0", 2);
        gives(x, "page 3", 3);
        x.hold(20);
        gives(x, "store 21 0", 3);
        row(x, "slot 0", 0, 1, 2, 20);
        row(x, "total", 2, 2, 0, 0);
    }

    static void promise38StoredAgainItIsDroppedFirst() {
        SqueezedSwap x = after(zones(1), "limit 1");
        gives(x, "store 1 0", 2);
        row(x, "total", 0, 0, 0, 0);
        row(x, "slot 0", 0, 1, 2, 3);
        row(x, "aged", 0, 2, 3, 1);
        gives(x, "store 1 3", 1);
        gives(x, "slot 0 1", -2);
        gives(x, "store 1 2", 3);
        gives(x, "about 8", 0);
        gives(x, "store 1 0", 2);
        gives(x, "about 9", 0);
        row(x, "total", 1, 0, 0, 0);
    }

    static void promise38ItsOldZoneGoesFirst() {
        SqueezedSwap x = after(told(swapOf(4, 1, 15, 4, 7)), "store 0 1", "store 0 0");
        gives(x, "pooled 0 1", 0);
        gives(x, "about 5", 1);
        gives(x, "total 1", 0);
    }

    static void promise38StoredAgainItIsNotHeld() {
        SqueezedSwap x = after(zones(1), "hold 0", "store 0 0");
        gives(x, "pooled 0 4", 0);
        gives(x, "hold 0", true);
    }

    static void promise38InThePoolItIsTheYoungest() {
        SqueezedSwap x = after(zones(1), "store 0 1");
        row(x, "aged", 1, 2, 3, 0);
    }

    static void promise38ItsDataAreCopied() {
        SqueezedSwap x = after(told(), "store 0 2", "poke 2 0 50", "store 1 2");
        gives(x, "read 0 0", 5);
        gives(x, "read 1 0", 50);
        gives(x, "pooled 0 0", 4);
        gives(x, "pooled 1 0", 6);
    }

    static void promise38AllPagesAndAllZones() {
        SqueezedSwap x = stores(told(swapOf(24, 1, 15, 13)), 0, 30, 0);
        gives(x, "about 6", 24);
        gives(x, "about 9", 6);
        // Six were pushed, and their numbers are had again.
        gives(x, "pooled 24 1", 0);
        gives(x, "pooled 29 1", 5);
        gives(x, "pooled 23 1", 23);
    }

    // ---- promise 39: load

    static void promise39PagesGoFrom0To29() {
        bounds(Checks::fullOfPages, 1, "load #", 0, 29);
    }

    static void promise39APageThatIsNowhereIsRefusedBy5() {
        refuses(5, "load 7", "load 29");
        refuses(() -> after(rich(), "drop 3"), 5, "load 3");
    }

    static void promise39OfThePoolItIsTheYoungest() {
        SqueezedSwap x = fullOfPages();
        gives(x, "load 0", 2);
        gives(x, "aged 29", 0);
        gives(x, "aged 0", 1);
        gives(x, "load 0", 2);
        gives(x, "aged 29", 0);
        gives(x, "total 2", 0);
    }

    static void promise39OnDiskItIsReadAndStays() {
        SqueezedSwap x = rich();
        gives(x, "load 3", 3);
        gives(x, "total 2", 2);
        gives(x, "about 9", 2);
        row(x, "aged", 0, 1, 4, 5);
    }

    static void promise39AWordStaysAsItIs() {
        alike("load 2", EdgesOfActsTest::few, () -> after(few(), "load 2"), "size 1");
        gives(rich(), "load 2", 1);
    }

    static void promise39AHeldOneIsLoadedToo() {
        SqueezedSwap x = rich();
        gives(x, "load 1", 2);
        gives(x, "pooled 1 3", 3);
        gives(x, "pooled 1 4", 1);
    }

    // ---- promise 40: drop

    static void promise40PagesGoFrom0To29() {
        bounds(Checks::fullOfPages, 1, "drop #", 0, 29);
    }

    static void promise40APageThatIsNowhereIsRefusedBy5() {
        refuses(5, "drop 7", "drop 29");
        refuses(() -> after(rich(), "drop 2"), 5, "drop 2");
    }

    static void promise40WhereItWas() {
        gives(rich(), "drop 2", 1);
        gives(rich(), "drop 0", 2);
        gives(rich(), "drop 1", 2);
        gives(rich(), "drop 3", 3);
        for (int p = 0; p < 7; p++) {
            gives(after(rich(), "drop " + p), "page " + p, 0);
        }
    }

    static void promise40AZoneWithoutPagesGoesAtOnce() {
        SqueezedSwap x = zonesWith(2, 4);
        x.drop(0);
        gives(x, "about 6", 2);
        x.drop(1);
        gives(x, "about 6", 1);
        gives(x, "about 5", 1);
        gives(x, "zone 1 2", 4);
    }

    static void promise40TotalsStay() {
        row(after(rich(), "drop 0", "drop 1", "drop 2", "drop 3"), "total", 2, 1, 1, 1);
    }

    // ---- promise 41: hold

    static void promise41PagesGoFrom0To29() {
        bounds(Checks::fullOfPages, 1, "hold #", 0, 29);
    }

    static void promise41NotInThePoolIsRefusedBy5() {
        refuses(5, "hold 2", "hold 3", "hold 6", "hold 7");
    }

    static void promise41HeldAlreadyIsRefusedBy5() {
        refuses(5, "hold 1");
    }

    static void promise41TillItIsDroppedOrReleased() {
        SqueezedSwap x = rich();
        gives(x, "hold 0", true);
        gives(x, "pooled 0 4", 1);
        after(x, "load 0", "compact", "limit 1", "writeBack 30");
        gives(x, "pooled 0 4", 1);
        x.release(0);
        gives(x, "pooled 0 4", 0);
        after(x, "hold 0", "drop 0", "limit 7", "store 0 1");
        gives(x, "hold 0", true);
    }

    static void promise41AllPagesMayBeHeld() {
        SqueezedSwap x = fullOfPages();
        for (int p = 0; p < 30; p++) {
            gives(x, "hold " + p, true);
        }
        gives(x, "writeBack 30", 0);
        gives(x, "limit 1", 0);
        gives(x, "about 7", 30);
    }

    // ---- promise 42: release

    static void promise42PagesGoFrom0To29() {
        Supplier<SqueezedSwap> held = () -> after(fullOfPages(), "hold 0", "hold 29");
        bounds(held, 1, "release #", 0, 29);
    }

    static void promise42NotHeldIsRefusedBy5() {
        refuses(5, "release 0", "release 2", "release 3", "release 7");
        refuses(() -> after(rich(), "release 1"), 5, "release 1");
        refuses(() -> after(rich(), "drop 1"), 5, "release 1");
        refuses(() -> after(rich(), "store 1 5"), 5, "release 1");
    }

    static void promise42ReleasedItMayGo() {
        SqueezedSwap x = after(rich(), "writeBack 30");
        gives(x, "page 1", 2);
        gives(x, "release 1", true);
        gives(x, "writeBack 30", 1);
        gives(x, "page 1", 3);
    }

    static void promise42ReleasingPushesNothing() {
        SqueezedSwap x = after(zones(2), "hold 0", "hold 4", "limit 1", "release 0", "release 4");
        gives(x, "about 5", 2);
        gives(x, "about 0", 1);
        gives(x, "limit 1", 1);
    }

    // ---- promise 43: poke

    static void promise43DataGoUpToThoseTold() {
        bounds(1, "poke # 0 1", 0, 5);
        refuses(Checks::withoutData, 1, "poke 0 0 1");
    }

    static void promise43CellsGoFrom0To15() {
        bounds(1, "poke 0 # 1", 0, 15);
    }

    static void promise43ACellIsFrom0To99() {
        bounds(2, "poke 0 0 #", 0, 99);
    }

    static void promise43Refusal1ComesAheadOf2() {
        refuses(1, "poke 6 0 100", "poke 0 16 -1", "poke -1 0 100", "poke 0 -1 100");
    }

    static void promise43WhatItWas() {
        SqueezedSwap x = told();
        gives(x, "poke 3 15 99", 16);
        gives(x, "poke 3 15 0", 99);
        gives(x, "poke 3 15 0", 0);
        gives(x, "cell 3 15", 0);
        gives(x, "cell 3 14", 15);
        gives(x, "cell 4 0", 9);
    }

    static void promise43PagesStoredStayAsTheyAre() {
        alike("pokes", EdgesOfActsTest::few, () -> after(few(), "poke 1 0 50", "poke 1 0 1"), "size 1");
        SqueezedSwap x = after(few(), "poke 0 0 50");
        gives(x, "page 2", 1);
        gives(x, "read 2 0", 7);
    }

    // ---- promise 44: writeBack

    static void promise44NGoesFrom1To30() {
        bounds(2, "writeBack #", 1, 30);
        bounds(Checks::fullOfPages, 2, "writeBack #", 1, 30);
    }

    static void promise44AsManyAsThereAre() {
        gives(fullOfPages(), "writeBack 29", 29);
        gives(fullOfPages(), "writeBack 30", 30);
        gives(rich(), "writeBack 30", 3);
        gives(told(), "writeBack 1", 0);
        gives(told(), "writeBack 30", 0);
    }

    static void promise44TheColdestGo() {
        SqueezedSwap x = fullOfPages();
        x.load(0);
        gives(x, "writeBack 2", 2);
        row(x, "page", 2, 3, 3, 2);
    }

    static void promise44HeldOnesStay() {
        SqueezedSwap x = rich();
        x.hold(0);
        gives(x, "writeBack 1", 1);
        row(x, "page", 2, 2, 1, 3, 3, 2, 3);
    }

    static void promise44TheyAreWrittenNotPushed() {
        row(after(fullOfPages(), "writeBack 30"), "total", 30, 0, 0, 0);
    }

    static void promise44TheirZonesGo() {
        SqueezedSwap x = after(zones(2), "writeBack 3");
        gives(x, "about 6", 2);
        x.writeBack(1);
        gives(x, "about 6", 1);
        refused(x, "zone(0, 0)", x.zone(0, 0), 1);
    }

    // ---- promise 45: limit

    static void promise45LimitsGoFrom1To24() {
        bounds(2, "limit #", 1, 24);
    }

    static void promise45ByAsManyFramesAsThereAreNoneGo() {
        SqueezedSwap x = rich();
        gives(x, "limit 5", 0);
        gives(x, "limit 4", 1);
        gives(x, "page 0", 3);
        gives(x, "limit 1", 2);
        row(x, "aged", 1);
        gives(x, "about 0", 1);
    }

    static void promise45TheyAreWrittenAndPushed() {
        row(after(zones(7), "limit 1"), "total", 24, 24, 0, 0);
        gives(zones(7), "limit 1", 24);
    }

    static void promise45IfAllAreHeldNoneGo() {
        SqueezedSwap x = after(zones(1), "hold 0", "hold 1", "hold 2", "hold 3", "store 20 4", "hold 20");
        gives(x, "limit 1", 0);
        gives(x, "about 5", 2);
        gives(x, "about 0", 1);
        gives(x, "store 21 3", 1);
        gives(x, "store 21 4", 3);
    }

    static void promise45AHigherLimitBringsNothingBack() {
        SqueezedSwap x = after(rich(), "limit 1");
        gives(x, "limit 24", 0);
        gives(x, "about 0", 24);
        gives(x, "about 7", 1);
    }

    // ---- promise 46: compact

    static void promise46OfNothingNothing() {
        gives(told(), "compact", 0);
        gives(zonesWith(1), "compact", 0);
        gives(zonesWith(4, 4), "compact", 0);
        row(after(zonesWith(4, 4, 1), "compact"), "total", 0, 0, 0, 0);
    }

    static void promise46AsLongAsTwoArentFull() {
        SqueezedSwap x = zonesWith(3, 3, 2);
        // 2 gives a page to 0 and one to 1.
        gives(x, "compact", 1);
        gives(x, "total 3", 2);
        row(x, "slot 0", 0, 1, 2, 9);
        row(x, "slot 1", 4, 5, 6, 8);
        x = zonesWith(3, 2);
        gives(x, "compact", 0);
        gives(x, "total 3", 1);
        row(x, "slot 0", 0, 1, 2, 5);
        row(x, "slot 1", 4, -2, -2, -2);
    }

    static void promise46OfTheFewestPagesTheGreatestNumberGives() {
        SqueezedSwap x = zonesWith(1, 3, 1);
        gives(x, "compact", 1);
        row(x, "slot 1", 4, 5, 6, 8);
        gives(x, "slot 0 0", 0);
        x = zonesWith(2, 2);
        gives(x, "compact", 1);
        row(x, "slot 0", 0, 1, 5, 4);
    }

    static void promise46OfTheMostPagesTheLeastNumberTakes() {
        SqueezedSwap x = zonesWith(1, 3, 3);
        gives(x, "compact", 1);
        row(x, "slot 1", 4, 5, 6, 0);
        row(x, "slot 2", 8, 9, 10, -2);
    }

    static void promise46TheLastSlotGivesAndTheFirstFreeOneTakes() {
        SqueezedSwap x = after(zones(2), "drop 1", "drop 5", "drop 7");
        gives(x, "compact", 0);
        row(x, "slot 0", 0, 6, 2, 3);
        row(x, "slot 1", 4, -2, -2, -2);
        gives(x, "pooled 6 1", 0);
        gives(x, "pooled 6 2", 1);
    }

    static void promise46ItGainsAllFramesOfTheZonesThatGo() {
        SqueezedSwap x = stores(told(swapOf(24, 1, 15, 7)), 0, 10, 0);
        gives(x, "compact", 0);
        x.drop(0);
        gives(x, "compact", 4);
        gives(x, "about 5", 4);
    }

    static void promise46AgesAndHeldOnesStay() {
        SqueezedSwap x = after(zonesWith(3, 1), "hold 4", "load 0", "compact");
        row(x, "aged", 1, 2, 4, 0);
        row(x, "pooled 4", 4, 0, 3, 2, 1);
    }

    static void promise46EachClassForItself() {
        SqueezedSwap x = after(zonesWith(1), "store 20 4", "store 21 4", "store 22 1", "compact");
        gives(x, "total 3", 0);
        gives(x, "about 6", 4);
    }

    static void promise46NumbersOfZonesThatGoAreHadAgain() {
        SqueezedSwap x = after(zonesWith(1, 3, 4), "compact", "store 20 4");
        gives(x, "pooled 20 1", 0);
    }

    // ---- promise 47: run

    static void promise47OpsGoUpToThoseTold() {
        bounds(1, "run # 1", 0, 4);
        bounds(() -> told(HEAD + ";load 1".repeat(24)), 1, "run # 24", 0, 23);
        refuses(() -> told(HEAD + DATA), 1, "run 0 1");
    }

    static void promise47NGoesFrom1To24() {
        bounds(2, "run 0 #", 1, 24);
        bounds(2, "run 4 #", 1, 24);
    }

    static void promise47Refusal1ComesAheadOf2() {
        refuses(1, "run 5 0", "run -1 25");
    }

    static void promise47AsManyAsThereAre() {
        gives(told(), "run 0 4", 4);
        gives(told(), "run 0 5", 5);
        gives(told(), "run 0 6", 5);
        gives(told(), "run 4 1", 1);
        gives(told(), "run 4 24", 1);
        gives(told(HEAD + ";drop 1".repeat(24)), "run 0 24", 24);
        gives(told(HEAD + ";drop 1".repeat(24)), "run 1 24", 23);
    }

    static void promise47OnlyThoseAreDone() {
        SqueezedSwap x = after(told(), "run 1 1");
        row(x, "page", 0, 2, 0);
        x = after(told(), "run 0 3");
        row(x, "page", 2, 2, 0);
        row(x, "aged", 1, 0);
        x = after(told(), "run 0 4");
        row(x, "page", 2, 0, 0);
    }

    static void promise47WhatIsNowhereIsCountedButNothingIsDone() {
        alike("run 2 2", Checks::told, () -> after(told(), "run 2 2"), "size 1");
        gives(told(), "run 2 2", 2);
        gives(told(HEAD + ";load 1;drop 1"), "run 0 2", 2);
    }

    static void promise47ARunOfOpsIsAsTheActs() {
        alike("run 0 24", () -> after(told(), "store 0 1", "store 1 2", "load 0", "drop 1", "store 2 3"),
            () -> after(told(), "run 0 24"), "size 1");
    }

    // ---- promise 48: undo

    static void promise48NothingToUndoIsRefusedBy1() {
        refuses(Checks::told, 1, "undo");
        refuses(() -> after(told(), "store 0 0", "undo"), 1, "undo");
    }

    static void promise48TenAreKept() {
        SqueezedSwap x = stores(told(), 0, 10, 0);
        gives(x, "size 1", 10);
        for (int p = 9; p >= 0; p--) {
            gives(x, "undo", true);
            gives(x, "page " + p, 0);
        }
        refused(x, "undo()", x.undo(), 1);
        gives(x, "about 8", 0);
    }

    static void promise48TheEleventhIsForgotten() {
        SqueezedSwap x = stores(told(), 0, 11, 0);
        gives(x, "size 1", 10);
        for (int p = 10; p >= 1; p--) {
            gives(x, "undo", true);
        }
        refused(x, "undo()", x.undo(), 1);
        row(x, "page", 1, 0);
    }

    static void promise48ManyMoreThanTen() {
        SqueezedSwap x = stores(told(), 0, 27, 0);
        for (int i = 0; i < 4; i++) {
            gives(x, "undo", true);
        }
        gives(x, "about 8", 23);
        stores(x, 27, 30, 0);
        gives(x, "size 1", 9);
        for (int i = 0; i < 9; i++) {
            gives(x, "undo", true);
        }
        refused(x, "undo()", x.undo(), 1);
        gives(x, "about 8", 17);
        gives(x, "page 16", 1);
        gives(x, "page 17", 0);
    }

    static void promise48BehindANewSwapTenAreKeptAnew() {
        SqueezedSwap x = stores(told(), 0, 7, 0);
        Driver.tell(x, HEAD + DATA);
        stores(x, 10, 22, 0);
        for (int i = 0; i < 10; i++) {
            gives(x, "undo", true);
        }
        refused(x, "undo()", x.undo(), 1);
        gives(x, "about 8", 2);
        gives(x, "page 11", 1);
        gives(x, "page 12", 0);
    }

    static void promise48EachActIsUndone() {
        for (String act : Calls.ACTS) {
            due(act + " is refused", ask(few(), act) == refusal(act), false);
            alike(act + " undone", EdgesOfActsTest::few, () -> after(few(), act, "undo"));
            gives(after(few(), act), "undo", true);
        }
    }

    static void promise48ActsThatChangeNothingAreKeptToo() {
        for (String act : List.of("load 2", "load 4", "compact", "limit 4", "poke 0 0 7", "run 3 1", "writeBack 1")) {
            SqueezedSwap x = act.startsWith("writeBack") ? told() : few();
            int kept = x.size(1);
            ask(x, act);
            due("size(1) behind " + act, x.size(1), kept + 1);
        }
    }

    static void promise48QuestionsAreNotKept() {
        for (String question : Calls.QUESTIONS) {
            SqueezedSwap x = few();
            int kept = x.size(1);
            ask(x, question);
            due("size(1) behind " + question, x.size(1), kept);
        }
    }

    static void promise48RefusedCallsAreNotKept() {
        for (String call : Calls.BAD) {
            SqueezedSwap x = few();
            int kept = x.size(1);
            ask(x, call);
            due("size(1) behind " + call, x.size(1), kept);
        }
    }

    static void promise48AnUndoIsNotUndone() {
        SqueezedSwap x = after(told(), "store 0 0", "store 1 0", "undo", "undo");
        refused(x, "undo()", x.undo(), 1);
        row(x, "page", 0, 0);
    }

    static void promise48ANewActComesInThePlaceOfTheOneUndone() {
        SqueezedSwap x = after(told(), "store 0 0", "store 1 0", "undo", "store 2 0", "undo");
        row(x, "page", 1, 0, 0);
        x.undo();
        row(x, "page", 0, 0, 0);
        refused(x, "undo()", x.undo(), 1);
    }

    static void promise48TheTapeStays() {
        SqueezedSwap x = after(told(), "store 0 0", "feed 1 2 3 4 5", "undo");
        gives(x, "size 0", 20);
    }
}
