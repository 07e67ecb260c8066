import java.util.NoSuchElementException;

/** For each promise of the document what it says, worked out by hand: ordinary inputs, edges and wrong inputs. */
public final class PromiseTest extends Checks {
    public static void main(String[] args) {
        newObject();
        feed();
        swap();
        fault();
        faultsOfForm();
        faultsOfNumbers();
        faultsOfLines();
        faultsOfCells();
        where();
        about();
        cell();
        squeezed();
        pieces();
        piece();
        fewest();
        rest();
        ranked();
        sort();
        home();
        sizes();
        gain();
        next();
        coldest();
        fittest();
        zone();
        slot();
        page();
        pooled();
        read();
        aged();
        total();
        same();
        waste();
        would();
        freeing();
        holds();
        pushes();
        pushed();
        foretold();
        enough();
        op();
        store();
        storeAgain();
        load();
        drop();
        hold();
        release();
        poke();
        writeBack();
        limit();
        compact();
        run();
        undo();
        undoRestoresAll();
        onDisk();
        size();
        trouble();
        end("the promises hold");
    }

    private static void newObject() {
        begin("promise 1");
        SqueezedSwap x = new SqueezedSwap();
        due("trouble()", x.trouble(), 0);
        due("fault()", x.fault(), 0);
        due("where()", x.where(), -1);
        due("size(0)", x.size(0), 0);
        due("size(1)", x.size(1), 0);
        refused(x, "about(0)", x.about(0), 1);
        refused(x, "about(11)", x.about(11), 1);
        refused(x, "home(99)", x.home(99), 1);
        refused(x, "next(99)", x.next(99), 1);
        refused(x, "would(99, true)", x.would(99, true), 1);
        refused(x, "foretold(99, 9, 0)", x.foretold(99, 9, 0), 1);
        refused(x, "poke(0, 0, 100)", x.poke(0, 0, 100), 1);
        refused(x, "writeBack(0)", x.writeBack(0), 1);
        refused(x, "limit(0)", x.limit(0), 1);
        refused(x, "run(0, 0)", x.run(0, 0), 1);
        refused(x, "hold(0)", x.hold(0), 1);
        refused(x, "release(0)", x.release(0), 1);
        refused(x, "undo()", x.undo(), 1);
        refused(x, "page(0)", x.page(0), 1);
        refused(x, "freeing()", x.freeing(), 1);
        refused(x, "ranked(0)", x.ranked(0), 1);
        x.swap(1);
        refused(x, "gain()", x.gain(), 1);
        x.swap(1);
        refused(x, "fittest()", x.fittest(), 1);
        x.swap(1);
        refused(x, "waste()", x.waste(), 1);
        x.swap(1);
        refused(x, "holds(true)", x.holds(true), 1);
        x.swap(1);
        refused(x, "enough()", x.enough(), 1);
        x.swap(1);
        refused(x, "compact()", x.compact(), 1);
        due("NONE", SqueezedSwap.NONE, -1);
    }

    private static void feed() {
        begin("promise 2");
        SqueezedSwap x = new SqueezedSwap();
        x.about(0);
        for (int n = 20; n <= 900; n += 20) {
            due("feed", x.feed(0x20202020, 0x20202020, 0x20202020, 0x20202020, 0x20202020), n);
        }
        due("a feed too many", x.feed(1, 2, 3, 4, 5), -1);
        due("size(0)", x.size(0), 900);
        due("trouble() that no feed changes", x.trouble(), 1);
        due("swap(900)", x.swap(900), -1);
        due("where() behind nothing but blanks", x.where(), 900);
        due("size(0)", x.size(0), 0);
        x.feed(0x73776170, 0x20ff0000, 0, 0, 0);
        due("swap of a byte 255", x.swap(6), -1);
        due("where() of it", x.where(), 5);
        x.feed(0xff737761, 0x70000000, 0, 0, 0);
        x.swap(5);
        due("the highest byte is first", x.where(), 0);
    }

    private static void swap() {
        begin("promise 3");
        SqueezedSwap x = new SqueezedSwap();
        Driver.feed(x, HEAD + DATA);
        int fed = x.size(0);
        refused(x, "swap(-1)", x.swap(-1), 2);
        refused(x, "swap(too many)", x.swap(fed + 1), 2);
        due("the tape stays", x.size(0), fed);
        due("swap", x.swap((HEAD + DATA).length()), 6);
        due("trouble()", x.trouble(), 0);
        due("the tape is empty, with what was behind", x.size(0), 0);
        x.store(0, 3);
        refused(x, "swap(0)", x.swap(0), 4);
        due("the swap stays", x.page(0), 3);
        due("what can be undone stays", x.size(1), 1);
        due("a swap without data", Driver.tell(x, "swap frames 24 step 3 big 4"), 0);
        due("nothing is stored", x.page(0), 0);
        due("nothing to undo", x.size(1), 0);
        due("total(0)", x.total(0), 0);
        due("about(0)", x.about(0), 24);
        due("about(1)", x.about(1), 3);
        due("about(2)", x.about(2), 4);
        refused(x, "cell of former data", x.cell(0, 0), 1);
        String full = "swap frames 1 step 1 big 15" + ";data 1x16".repeat(10) + ";store 29 9".repeat(24);
        due("ten data", Driver.tell(x, full), 10);
        due("24 ops", x.about(4), 24);
        due("no blanks but where words or wholes meet", Driver.tell(x, "swap frames1step1big4;data1x16;store0 0"), 1);
        due("blanks all over", Driver.tell(x, "  swap  frames 001  step 01 big 4 ; data  1 x 15 , 2 ; drop  1  "), 1);
        due("the last cell", x.cell(0, 15), 2);
    }

    private static void fault() {
        begin("promise 4");
        SqueezedSwap x = new SqueezedSwap();
        Driver.tell(x, "swap frames 0 step 1 big 4");
        due("fault()", x.fault(), 2);
        x.swap(1);
        due("a swap refused by 2 leaves it", x.fault(), 2);
        x.about(0);
        due("other calls leave it", x.fault(), 2);
        Driver.tell(x, HEAD);
        due("fault() without one", x.fault(), 0);
    }

    private static void faultsOfForm() {
        begin("promise 3");
        faulty("", 1, 0);
        faulty("   ", 1, 3);
        faulty(";", 1, 0);
        faulty("12", 1, 0);
        faulty("swops", 1, 0);
        faulty("Swap", 1, 0);
        faulty("swapa frames", 1, 0);
        faulty("swapz frames", 1, 0);
        faulty("swap ", "framesz 1", 1);
        faulty("swap frames 1 step 1 big", 1, 24);
        faulty("swap frames 1 step 1 big ", 1, 25);
        faulty("swap ", "step 1", 1);
        faulty("swap ", "framess 1", 1);
        faulty("swap ", "frame 1", 1);
        faulty("swap frames ", "1000", 1);
        faulty("swap frames ", "0001", 1);
        faulty("swap frames 1 ", "steps 1", 1);
        faulty("swap frames 1 step 1 ", ", big 4", 1);
        faulty(HEAD, "\tdata", 1);
        faulty(HEAD + " ", "data 1 x 16", 1);
        faulty(HEAD + " ", "7", 1);
        faulty(HEAD + ";", "", 1);
        faulty(HEAD + ";", ";data 1 x 16", 1);
        faulty(HEAD + ";", "frames 1", 1);
        faulty(HEAD + ";", "x 1", 1);
        faulty(HEAD + ";data", "", 1);
        faulty(HEAD + ";data", ";", 1);
        faulty(HEAD + ";data ", "x 16", 1);
        faulty(HEAD + ";data 1", "y 16", 1);
        faulty(HEAD + ";data 1 x", "", 1);
        faulty(HEAD + ";data 1 x ", ";", 1);
        faulty(HEAD + ";data 1 x 8", ";data 1 x 16", 6);
        faulty(HEAD + ";data 1 x 8 ", "x 2", 1);
        faulty(HEAD + ";data 1 x 8,", ",", 1);
        faulty(HEAD + ";data 1 x 8,", ";", 1);
        faulty(HEAD + ";data 1 x 16,", "", 1);
        faulty(HEAD + ";data 1 x 16 ", "$", 1);
        faulty(HEAD + ";data 1 x 16 ", "2", 1);
        faulty(HEAD + ";store ", "", 1);
        faulty(HEAD + ";load", "", 1);
        faulty(HEAD + ";load 1 ", "2", 1);
        faulty(HEAD + ";drop ", ",", 1);
        faulty(HEAD + ";data 1 x 16;store 1 ", ";", 1);
        faulty(HEAD + ";data 1 x 16;store 1 0", ",", 1);
    }

    private static void faultsOfNumbers() {
        begin("promise 3");
        faulty("swap frames ", "0 step 9", 2);
        faulty("swap frames ", "25", 2);
        faulty("swap frames 1 step ", "0", 2);
        faulty("swap frames 1 step ", "5", 2);
        faulty("swap frames 1 step 1 big ", "3", 2);
        faulty("swap frames 1 step 1 big ", "16", 2);
        faulty(HEAD + ";data ", "100", 2);
        faulty(HEAD + ";data 1 x ", "0", 2);
        faulty(HEAD + ";data 1 x ", "17", 2);
        faulty(HEAD + ";data 1 x 16,", "100", 2);
        faulty(HEAD + ";data 1 x 15,1 x ", "17", 2);
        faulty(HEAD + ";load ", "30", 2);
        faulty(HEAD + ";drop ", "999", 2);
        faulty(HEAD + ";store ", "30", 2);
        faulty(HEAD + ";store 29 ", "0", 2);
        faulty(HEAD + ";data 1 x 16;store 0 ", "1;data 1 x 16", 2);
        SqueezedSwap x = told("swap frames 1 step 4 big 15;data 0 x 1,99 x 15;load 29;drop 0;store 29 0");
        due("three ops", x.about(4), 3);
    }

    private static void faultsOfLines() {
        begin("promise 3");
        faulty(HEAD + ";", "swap", 3);
        faulty(HEAD + ";data 1 x 16;", "swap frames 99", 3);
        String many = HEAD + ";data 1 x 16".repeat(10) + ";";
        faulty(many, "data", 4);
        faulty(many, "data 1 x 17", 4);
        String ops = HEAD + ";data 1 x 16" + ";store 0 0;load 1;drop 2".repeat(8) + ";";
        faulty(ops, "store", 4);
        faulty(ops, "load 99", 4);
        faulty(ops, "drop 1", 4);
        faulty("", "data 1 x 16;" + HEAD, 5);
        faulty("  ", "load 1", 5);
        faulty("", "drop", 5);
        faulty("", "store $", 5);
        told(ops + "data 2 x 16");
    }

    private static void faultsOfCells() {
        begin("promise 3");
        faulty(HEAD + ";data 1 x 15", "", 6);
        faulty(HEAD + ";data 1 x 15  ", "", 6);
        faulty(HEAD + ";data 1 x 15 ", ";", 6);
        faulty(HEAD + ";data 1", ";load 99", 6);
        faulty(HEAD + ";data 1 x 16,", "2", 6);
        faulty(HEAD + ";data 1 x 16,", "2 x 99", 6);
        faulty(HEAD + ";data 1 x 12,2 x ", "5", 6);
        faulty(HEAD + ";data 1,1,1,1,1,1,1,1,1,1,1,1,1,1,1,1,", "1", 6);
        told(HEAD + ";data 1,1,1,1,1,1,1,1,1,1,1,1,1,1,1,1");
    }

    private static void where() {
        begin("promise 5");
        SqueezedSwap x = new SqueezedSwap();
        Driver.tell(x, "swap frames 0");
        due("where()", x.where(), 12);
        x.feed(0, 0, 0, 0, 0);
        x.fault();
        x.size(0);
        x.trouble();
        try {
            x.onDisk(0);
        } catch (NoSuchElementException e) {
            // Not one of the calls that may be refused by a number.
        }
        due("where() behind calls that can't be refused", x.where(), 12);
        x.about(0);
        due("where() behind a refusal by 1", x.where(), -1);
        x.swap(21);
        due("where() behind a refusal by 2", x.where(), -1);
        x.swap(1);
        due("where() of a byte 0", x.where(), 0);
        Driver.tell(x, HEAD);
        due("where() behind a swap", x.where(), -1);
    }

    private static void about() {
        begin("promise 6");
        SqueezedSwap x = filled();
        int[] want = {4, 2, 12, 6, 5, 4, 2, 3, 1, 1, 19};
        for (int what = 0; what < want.length; what++) {
            due("about(" + what + ")", x.about(what), want[what]);
            due("trouble()", x.trouble(), 0);
        }
        refused(x, "about(11)", x.about(11), 1);
        refused(x, "about(-1)", x.about(-1), 1);
        x.limit(9);
        due("about(0) behind another limit", x.about(0), 9);
    }

    private static void cell() {
        begin("promise 7");
        SqueezedSwap x = told();
        due("cell(3, 0)", x.cell(3, 0), 1);
        due("cell(3, 15)", x.cell(3, 15), 16);
        due("cell(2, 7)", x.cell(2, 7), 5);
        due("cell(2, 8)", x.cell(2, 8), 6);
        refused(x, "cell(6, 0)", x.cell(6, 0), 1);
        refused(x, "cell(-1, 0)", x.cell(-1, 0), 1);
        refused(x, "cell(0, 16)", x.cell(0, 16), 1);
        refused(x, "cell(0, -1)", x.cell(0, -1), 1);
    }

    private static void squeezed() {
        begin("promise 8");
        SqueezedSwap x = told();
        int[] want = {2, 11, 4, 18, 4, 7};
        for (int d = 0; d < want.length; d++) {
            due("squeezed(" + d + ")", x.squeezed(d), want[d]);
        }
        refused(x, "squeezed(6)", x.squeezed(6), 1);
        refused(x, "squeezed(-1)", x.squeezed(-1), 1);
        // A copy may reach into itself, but never a single cell ahead, and never 9 cells far.
        x = told(HEAD + ";data 1,2,1,2,1,2,1,2,1,2,1,2,1,2,1,2;data 1,2,3,4,5,6,7,8,9,10,11,12,1,2,3,4"
            + ";data 1,2,3,4,5,6,7,8,1,2,3,4,5,6,7,8");
        due("of two cells again and again", x.squeezed(0), 9);
        due("a copy from far", x.squeezed(1), 17);
        due("a copy of eight", x.squeezed(2), 12);
    }

    private static void pieces() {
        begin("promise 9");
        SqueezedSwap x = told();
        int[] want = {1, 3, 2, 2, 2, 3};
        for (int d = 0; d < want.length; d++) {
            due("pieces(" + d + ")", x.pieces(d), want[d]);
        }
        refused(x, "pieces(6)", x.pieces(6), 1);
        refused(x, "pieces(-1)", x.pieces(-1), 1);
    }

    private static void cutIs(SqueezedSwap x, int data, int[][] want) {
        due("pieces(" + data + ")", x.pieces(data), want.length);
        for (int i = 0; i < want.length; i++) {
            for (int what = 0; what < 4; what++) {
                due("piece(" + data + ", " + i + ", " + what + ")", x.piece(data, i, what), want[i][what]);
            }
        }
        refused(x, "a piece too many", x.piece(data, want.length, 0), 1);
    }

    private static void piece() {
        begin("promise 10");
        SqueezedSwap x = told();
        cutIs(x, 0, new int[][] {{0, 0, 16, 0}});
        cutIs(x, 1, new int[][] {{2, 0, 4, 0}, {1, 4, 8, 4}, {1, 12, 4, 4}});
        due("piece(3, 1, 1), asked for first", x.piece(3, 1, 1), 8);
        cutIs(x, 3, new int[][] {{2, 0, 8, 0}, {2, 8, 8, 0}});
        // The run comes first, though one plain piece would cost no more.
        cutIs(x, 5, new int[][] {{0, 0, 2, 0}, {2, 2, 2, 0}, {0, 4, 12, 0}});
        refused(x, "piece(0, -1, 0)", x.piece(0, -1, 0), 1);
        refused(x, "piece(0, 0, 4)", x.piece(0, 0, 4), 1);
        refused(x, "piece(0, 0, -1)", x.piece(0, 0, -1), 1);
        refused(x, "piece(6, 0, 0)", x.piece(6, 0, 0), 1);
        x = told(HEAD + ";data 1,2,3,4,5,6,7,8,1,2,9 x 6;data 1,2,1,2,1,2,1,2,1,2,1,2,1,2,1,2"
            + ";data 1,2,3,4,5,6,7,8,9,10,11,12,1,2,3,4");
        // A copy of two comes ahead of a plain piece of two.
        cutIs(x, 0, new int[][] {{2, 0, 8, 0}, {1, 8, 2, 8}, {0, 10, 6, 0}});
        // The longest copy, and of several the one from nearest.
        cutIs(x, 1, new int[][] {{2, 0, 2, 0}, {1, 2, 8, 2}, {1, 10, 6, 2}});
        cutIs(x, 2, new int[][] {{2, 0, 8, 0}, {2, 8, 4, 0}, {1, 12, 4, 12}});
    }

    private static void fewest() {
        begin("promise 11");
        SqueezedSwap x = told();
        int[] want = {1, 3, 2, 2, 2, 2};
        for (int d = 0; d < want.length; d++) {
            due("fewest(" + d + ")", x.fewest(d), want[d]);
        }
        refused(x, "fewest(6)", x.fewest(6), 1);
        refused(x, "fewest(-1)", x.fewest(-1), 1);
    }

    private static void rest() {
        begin("promise 12");
        SqueezedSwap x = told();
        int[] want = {7, 6, 5, 4, 2, 2, 2, 2, 2, 2, 2, 2, 2, 2, 2, 2};
        for (int i = 0; i < 16; i++) {
            due("rest(5, " + i + ")", x.rest(5, i), want[i]);
        }
        due("a copy of cells ahead", x.rest(1, 12), 3);
        due("two such", x.rest(1, 4), 6);
        due("rest(3, 7)", x.rest(3, 7), 11);
        due("rest(3, 8)", x.rest(3, 8), 9);
        refused(x, "rest(0, 16)", x.rest(0, 16), 1);
        refused(x, "rest(0, -1)", x.rest(0, -1), 1);
        refused(x, "rest(6, 0)", x.rest(6, 0), 1);
    }

    private static void ranked() {
        begin("promise 13");
        SqueezedSwap x = told();
        int[] want = {0, 2, 4, 5, 1, 3};
        for (int k = 0; k < 6; k++) {
            due("ranked(" + k + ")", x.ranked(k), want[k]);
        }
        refused(x, "ranked(6)", x.ranked(6), 1);
        refused(x, "ranked(-1)", x.ranked(-1), 1);
    }

    private static void sort() {
        begin("promise 14");
        SqueezedSwap x = told();
        int[] want = {1, 0, 0, 2, 0, 0};
        for (int d = 0; d < 6; d++) {
            due("sort(" + d + ")", x.sort(d), want[d]);
        }
        refused(x, "sort(6)", x.sort(6), 1);
        x = told("swap frames 1 step 1 big 11" + DATA);
        due("a size as BIG", x.sort(1), 0);
        x = told("swap frames 1 step 1 big 10" + DATA);
        due("a size above BIG", x.sort(1), 2);
    }

    private static void home() {
        begin("promise 15");
        int[][] want = {{2, 8, 15}, {2, 8, 16}, {3, 9, 15}, {4, 8, 16}};
        for (int step = 1; step <= 4; step++) {
            SqueezedSwap x = told("swap frames 1 step " + step + " big 4");
            due("home(2) of step " + step, x.home(2), want[step - 1][0]);
            due("home(8) of step " + step, x.home(8), want[step - 1][1]);
            due("home(15) of step " + step, x.home(15), want[step - 1][2]);
            refused(x, "home(1)", x.home(1), 2);
            refused(x, "home(16)", x.home(16), 2);
        }
    }

    private static void sizes() {
        begin("promise 16");
        SqueezedSwap x = told("swap frames 1 step 1 big 4");
        int[] frames = {1, 1, 3, 1, 1, 3, 4, 1, 4, 2, 3, 3, 1, 1, 1, 1};
        int[] slots = {16, 8, 16, 4, 3, 8, 9, 2, 7, 3, 4, 4, 1, 1, 1, 1};
        int[] spare = {0, 0, 0, 0, 1, 0, 1, 0, 1, 2, 4, 0, 3, 2, 1, 0};
        for (int s = 1; s <= 16; s++) {
            due("sizes(" + s + ", 0)", x.sizes(s, 0), frames[s - 1]);
            due("sizes(" + s + ", 1)", x.sizes(s, 1), slots[s - 1]);
            due("sizes(" + s + ", 2)", x.sizes(s, 2), spare[s - 1]);
            due("sizes(" + s + ", 3)", x.sizes(s, 3), 0);
            due("sizes(" + s + ", 4)", x.sizes(s, 4), 0);
        }
        refused(x, "sizes(0, 0)", x.sizes(0, 0), 1);
        refused(x, "sizes(17, 0)", x.sizes(17, 0), 1);
        refused(x, "sizes(-4, 0)", x.sizes(-4, 0), 1);
        refused(x, "sizes(4, 5)", x.sizes(4, 5), 1);
        refused(x, "sizes(4, -1)", x.sizes(4, -1), 1);
        x = told("swap frames 1 step 3 big 4");
        due("sizes(15, 1)", x.sizes(15, 1), 1);
        refused(x, "sizes(16, 0) of step 3", x.sizes(16, 0), 1);
        refused(x, "sizes(18, 0) of step 3", x.sizes(18, 0), 1);
        x = holed();
        due("zones of class 8", x.sizes(8, 3), 3);
        due("pages of class 8", x.sizes(8, 4), 3);
        due("zones of class 4", x.sizes(4, 3), 0);
    }

    private static void gain() {
        begin("promise 17");
        SqueezedSwap x = holed();
        due("gain()", x.gain(), 1);
        due("nothing has moved", x.about(5), 3);
        due("total(3)", x.total(3), 0);
        x.drop(0);
        x.drop(3);
        due("gain() of a single zone", x.gain(), 0);
        x.drop(5);
        due("gain() of nothing", x.gain(), 0);
    }

    private static void next() {
        begin("promise 18");
        SqueezedSwap x = told();
        due("next(11) of an empty pool", x.next(11), 0);
        due("next(9): a zone of two frames", x.next(9), 0);
        x = filled();
        due("next(11)", x.next(11), 0);
        due("next(12)", x.next(12), 0);
        due("next(4)", x.next(4), 1);
        due("next(8)", x.next(8), -2);
        due("next(2)", x.next(2), -2);
        due("trouble()", x.trouble(), 0);
        refused(x, "next(1)", x.next(1), 2);
        refused(x, "next(16)", x.next(16), 2);
        x = holed();
        due("of several the least", x.next(8), 0);
        x.store(1, 0);
        due("the first that isn't full", x.next(8), 1);
        x.drop(3);
        due("the number that is free again", x.next(4), 1);
        x = told(ROOMY);
        for (int p = 0; p < 8; p++) {
            x.store(p, 1);
        }
        x.drop(1);
        x.drop(2);
        x.drop(5);
        due("the zone of most pages, not of the least number", x.next(4), 1);
        x = told("swap frames 2 step 4 big 15");
        due("a zone of three frames", x.next(9), -2);
    }

    private static void coldest() {
        begin("promise 19");
        SqueezedSwap x = filled();
        due("coldest(4)", x.coldest(4), 1);
        due("coldest(12)", x.coldest(12), 0);
        due("coldest(8)", x.coldest(8), -2);
        x.hold(1);
        due("coldest(4), held", x.coldest(4), 1);
        x.load(1);
        due("coldest(4) behind loading", x.coldest(4), 4);
        refused(x, "coldest(5)", x.coldest(5), 1);
        refused(x, "coldest(0)", x.coldest(0), 1);
        refused(x, "coldest(18)", x.coldest(18), 1);
    }

    private static void fittest() {
        begin("promise 20");
        SqueezedSwap x = told("swap frames 24 step 1 big 15" + DATA);
        due("fittest() of nothing", x.fittest(), 1);
        // Pages of size 7: by step 1 and 3 zones of 4 frames, by step 2 and 4 a frame for two.
        x.store(0, 5);
        due("fittest() of one", x.fittest(), 2);
        for (int p = 1; p < 8; p++) {
            x.store(p, 5);
        }
        due("fittest() of eight: 4 frames by step 1 and 2", x.fittest(), 1);
        x.store(8, 5);
        due("fittest() of nine", x.fittest(), 1);
        x.store(9, 5);
        due("fittest() of ten: 8, 5, 8, 5 frames", x.fittest(), 2);
        x.store(10, 3);
        x.store(11, 0);
        due("others than those of the pool don't count", x.fittest(), 2);
        // Four pages of size 9: 4, 4, 4, 3 frames.
        x = told("swap frames 24 step 1 big 15;data 1,2,3,4,5,6,9 x 10");
        for (int p = 0; p < 4; p++) {
            x.store(p, 0);
        }
        due("fittest() of four of size 9", x.fittest(), 4);
    }

    private static void zone() {
        begin("promise 21");
        SqueezedSwap x = filled();
        due("zone(0, 0)", x.zone(0, 0), 12);
        due("zone(0, 1)", x.zone(0, 1), 3);
        due("zone(0, 2)", x.zone(0, 2), 1);
        due("zone(1, 0)", x.zone(1, 0), 4);
        due("zone(1, 1)", x.zone(1, 1), 1);
        due("zone(1, 2)", x.zone(1, 2), 2);
        refused(x, "zone(2, 0)", x.zone(2, 0), 1);
        refused(x, "zone(-1, 0)", x.zone(-1, 0), 1);
        refused(x, "zone(24, 0)", x.zone(24, 0), 1);
        refused(x, "zone(0, 3)", x.zone(0, 3), 1);
        refused(x, "zone(0, -1)", x.zone(0, -1), 1);
        x.drop(0);
        refused(x, "a zone that went", x.zone(0, 0), 1);
        due("the other keeps its number", x.zone(1, 0), 4);
        x.store(5, 5);
        due("the number is had again", x.zone(0, 0), 8);
    }

    private static void slot() {
        begin("promise 22");
        SqueezedSwap x = filled();
        due("slot(0, 0)", x.slot(0, 0), 0);
        due("slot(0, 3)", x.slot(0, 3), -2);
        due("slot(1, 0)", x.slot(1, 0), 1);
        due("slot(1, 1)", x.slot(1, 1), 4);
        refused(x, "slot(0, 4)", x.slot(0, 4), 1);
        refused(x, "slot(0, -1)", x.slot(0, -1), 1);
        refused(x, "slot(2, 0)", x.slot(2, 0), 1);
        refused(x, "slot(-1, 0)", x.slot(-1, 0), 1);
        x.drop(1);
        due("slot(1, 0) behind a drop", x.slot(1, 0), -2);
        x.store(5, 2);
        due("the first free slot", x.slot(1, 0), 5);
    }

    private static void page() {
        begin("promise 23");
        SqueezedSwap x = filled();
        int[] want = {2, 2, 1, 3, 2, 0};
        for (int p = 0; p < want.length; p++) {
            due("page(" + p + ")", x.page(p), want[p]);
        }
        due("page(29)", x.page(29), 0);
        refused(x, "page(30)", x.page(30), 1);
        refused(x, "page(-1)", x.page(-1), 1);
    }

    private static void pooled() {
        begin("promise 24");
        SqueezedSwap x = filled();
        int[] want = {4, 1, 1, 2, 0};
        for (int what = 0; what < 5; what++) {
            due("pooled(4, " + what + ")", x.pooled(4, what), want[what]);
        }
        x.hold(4);
        due("pooled(4, 4)", x.pooled(4, 4), 1);
        refused(x, "pooled(2, 0)", x.pooled(2, 0), 5);
        refused(x, "pooled(3, 4)", x.pooled(3, 4), 5);
        refused(x, "pooled(9, 0)", x.pooled(9, 0), 5);
        refused(x, "pooled(9, 5)", x.pooled(9, 5), 1);
        refused(x, "pooled(0, -1)", x.pooled(0, -1), 1);
        refused(x, "pooled(30, 0)", x.pooled(30, 0), 1);
        x.poke(4, 0, 1);
        due("the size of what was stored", x.pooled(4, 0), 4);
    }

    private static void read() {
        begin("promise 25");
        SqueezedSwap x = filled();
        due("read(0, 2)", x.read(0, 2), 3);
        due("read(2, 15)", x.read(2, 15), 7);
        due("read(3, 15)", x.read(3, 15), 16);
        due("no loading", x.aged(0), 0);
        due("total(2)", x.total(2), 0);
        refused(x, "read(0, 16)", x.read(0, 16), 1);
        refused(x, "read(9, -1)", x.read(9, -1), 1);
        refused(x, "read(30, 0)", x.read(30, 0), 1);
        refused(x, "read(9, 0)", x.read(9, 0), 5);
    }

    private static void aged() {
        begin("promise 26");
        SqueezedSwap x = filled();
        due("aged(0)", x.aged(0), 0);
        due("aged(1)", x.aged(1), 1);
        due("aged(2)", x.aged(2), 4);
        refused(x, "aged(3)", x.aged(3), 1);
        refused(x, "aged(-1)", x.aged(-1), 1);
        x.load(0);
        due("aged(0) behind loading", x.aged(0), 1);
        due("aged(2) behind loading", x.aged(2), 0);
        x.store(1, 4);
        due("aged(2) behind storing", x.aged(2), 1);
    }

    private static void total() {
        begin("promise 27");
        SqueezedSwap x = filled();
        x.load(3);
        x.load(3);
        x.load(2);
        x.load(0);
        x.store(5, 5);
        due("total(0)", x.total(0), 3);
        due("total(1)", x.total(1), 2);
        due("total(2)", x.total(2), 2);
        due("total(3)", x.total(3), 0);
        refused(x, "total(4)", x.total(4), 1);
        refused(x, "total(-1)", x.total(-1), 1);
    }

    private static void same() {
        begin("promise 28");
        SqueezedSwap x = filled();
        x.store(5, 4);
        due("same(4, 5)", x.same(4, 5), 1);
        due("same(1, 4)", x.same(1, 4), 0);
        due("same(3, 3)", x.same(3, 3), 1);
        x.poke(4, 15, 9);
        x.store(5, 4);
        due("same(4, 5): the last cell", x.same(4, 5), 0);
        x.poke(4, 15, 4);
        x.poke(4, 0, 8);
        x.store(5, 4);
        due("same(4, 5): the first cell", x.same(4, 5), 0);
        refused(x, "same(9, 0)", x.same(9, 0), 5);
        refused(x, "same(0, 9)", x.same(0, 9), 5);
        refused(x, "same(9, 30)", x.same(9, 30), 1);
        refused(x, "same(-1, 9)", x.same(-1, 9), 1);
    }

    private static void waste() {
        begin("promise 29");
        SqueezedSwap x = told();
        due("waste() of nothing", x.waste(), 0);
        x = filled();
        due("waste()", x.waste(), 64 - 19);
    }

    private static void would() {
        begin("promise 30");
        SqueezedSwap x = filled();
        due("would(4, false)", x.would(4, false), 0);
        due("would(3, false)", x.would(3, false), 1);
        due("would(1, false)", x.would(1, false), 1);
        x.hold(0);
        due("would(3, false), the coldest held", x.would(3, false), 2);
        due("would(1, false): only a held one is left", x.would(1, false), 2);
        due("nothing has gone", x.about(7), 3);
        due("about(0)", x.about(0), 4);
        refused(x, "would(0, false)", x.would(0, false), 2);
        refused(x, "would(25, true)", x.would(25, true), 2);
        x = holed();
        due("would(2, false)", x.would(2, false), 1);
        due("would(2, true)", x.would(2, true), 0);
        // Compacted, 0 and 5 share a zone, and 3 is colder than 5.
        due("would(1, false) of three zones", x.would(1, false), 2);
        due("would(1, true) of two zones", x.would(1, true), 2);
    }

    private static void freeing() {
        begin("promise 31");
        SqueezedSwap x = told();
        due("freeing() of nothing", x.freeing(), -2);
        x = filled();
        due("freeing()", x.freeing(), 1);
        x.hold(0);
        due("freeing(), the coldest held", x.freeing(), 2);
        x.hold(4);
        due("freeing(), one of each zone held", x.freeing(), -2);
        due("nothing has gone", x.about(7), 3);
    }

    private static void holds() {
        begin("promise 32");
        SqueezedSwap x = told();
        due("holds(false) of nothing", x.holds(false), 1);
        x.store(1, 2);
        due("holds(false) of a frame", x.holds(false), 1);
        x = filled();
        due("holds(false)", x.holds(false), 4);
        due("holds(true)", x.holds(true), 4);
        x.hold(0);
        x.hold(1);
        due("holds(false), one not held", x.holds(false), 4);
        x.hold(4);
        due("holds(false), all held", x.holds(false), 1);
        x = holed();
        due("holds(false)", x.holds(false), 3);
        due("holds(true)", x.holds(true), 2);
        due("nothing has moved", x.about(5), 3);
    }

    private static void pushes() {
        begin("promise 33");
        SqueezedSwap x = filled();
        due("pushes(5, 2): a free slot", x.pushes(5, 2), 0);
        due("pushes(5, 0): a word", x.pushes(5, 0), 0);
        due("pushes(5, 3): too big", x.pushes(5, 3), 0);
        due("pushes(5, 5)", x.pushes(5, 5), 1);
        due("pushes(0, 5): it is dropped first", x.pushes(0, 5), 0);
        x.hold(0);
        due("pushes(5, 5), the coldest held", x.pushes(5, 5), 2);
        due("nothing has gone", x.about(7), 3);
        x.hold(1);
        x.hold(4);
        due("pushes(5, 5), all held: itself", x.pushes(5, 5), 1);
        refused(x, "pushes(30, 0)", x.pushes(30, 0), 1);
        refused(x, "pushes(0, 6)", x.pushes(0, 6), 1);
    }

    private static void pushed() {
        begin("promise 34");
        SqueezedSwap x = filled();
        due("pushed(5, 5, 0)", x.pushed(5, 5, 0), 0);
        refused(x, "pushed(5, 5, 1)", x.pushed(5, 5, 1), 1);
        refused(x, "pushed(5, 5, -1)", x.pushed(5, 5, -1), 1);
        refused(x, "pushed(5, 2, 0)", x.pushed(5, 2, 0), 1);
        refused(x, "pushed(30, 5, 0)", x.pushed(30, 5, 0), 1);
        refused(x, "pushed(0, 6, 0)", x.pushed(0, 6, 0), 1);
        x.hold(0);
        due("pushed(5, 5, 0), the coldest held", x.pushed(5, 5, 0), 1);
        due("pushed(5, 5, 1), the coldest held", x.pushed(5, 5, 1), 4);
        x.hold(1);
        x.hold(4);
        due("pushed(5, 5, 0): itself", x.pushed(5, 5, 0), 5);
    }

    private static void foretold() {
        begin("promise 35");
        SqueezedSwap x = told();
        due("foretold(4, 2, 0)", x.foretold(4, 2, 0), 1);
        due("foretold(4, 2, 1)", x.foretold(4, 2, 1), 0);
        due("foretold(4, 2, 2)", x.foretold(4, 2, 2), 0);
        due("foretold(2, 2, 0)", x.foretold(2, 2, 0), 2);
        due("foretold(2, 2, 1)", x.foretold(2, 2, 1), 1);
        due("foretold(2, 2, 2)", x.foretold(2, 2, 2), 1);
        due("foretold(3, 2, 1): the second pushes the first", x.foretold(3, 2, 1), 1);
        x.store(0, 3);
        x.load(0);
        due("what was stored doesn't count", x.foretold(4, 2, 0), 1);
        due("what was read doesn't count", x.foretold(4, 2, 2), 0);
        x.poke(1, 0, 5);
        x.poke(1, 8, 6);
        due("with data as they are now, of size 14", x.foretold(24, 2, 0), 2);
        due("with data as they are now, of size 14", x.foretold(24, 2, 2), 1);
        refused(x, "foretold(0, 2, 0)", x.foretold(0, 2, 0), 2);
        refused(x, "foretold(25, 2, 0)", x.foretold(25, 2, 0), 2);
        refused(x, "foretold(2, 0, 0)", x.foretold(2, 0, 0), 2);
        refused(x, "foretold(2, 5, 0)", x.foretold(2, 5, 0), 2);
        refused(x, "foretold(2, 2, 3)", x.foretold(2, 2, 3), 1);
        refused(x, "foretold(0, 0, -1)", x.foretold(0, 0, -1), 1);
        // Of size 7: by step 1 a zone of four frames, by step 2 of one.
        x = told(HEAD + DATA + ";store 0 5;load 5;drop 5");
        due("foretold(3, 1, 1)", x.foretold(3, 1, 1), 1);
        due("foretold(3, 2, 1)", x.foretold(3, 2, 1), 0);
        due("foretold(3, 3, 1): class 9, four frames", x.foretold(3, 3, 1), 1);
        due("foretold(1, 4, 1)", x.foretold(1, 4, 1), 0);
        due("foretold(24, 4, 0)", x.foretold(24, 4, 0), 0);
    }

    private static void enough() {
        begin("promise 36");
        SqueezedSwap x = told();
        due("enough()", x.enough(), 4);
        x.limit(1);
        due("enough() by another limit", x.enough(), 4);
        due("enough() without ops", told(HEAD + DATA).enough(), 1);
        due("enough() of a word", told(HEAD + DATA + ";store 0 0").enough(), 1);
        StringBuilder text = new StringBuilder("swap frames 4 step 4 big 15");
        text.append(";data 1,2,3,4,5,6,7,8,9,10,20 x 6;data 1,2,3,4,1,2,3,4,1,2,3,4,1,2,3,4;store 0 1");
        for (int p = 1; p < 22; p++) {
            text.append(";store ").append(p).append(" 0");
        }
        due("enough(): all 24 frames", told(text.toString()).enough(), 24);
        text.append(";store 22 0");
        due("enough(): a frame more", told(text.toString()).enough(), -2);
    }

    private static void op() {
        begin("promise 37");
        SqueezedSwap x = told();
        int[][] want = {{0, 0, 1}, {0, 1, 2}, {1, 0, -2}, {2, 1, -2}, {0, 2, 3}};
        for (int i = 0; i < want.length; i++) {
            for (int what = 0; what < 3; what++) {
                due("op(" + i + ", " + what + ")", x.op(i, what), want[i][what]);
            }
        }
        refused(x, "op(5, 0)", x.op(5, 0), 1);
        refused(x, "op(-1, 0)", x.op(-1, 0), 1);
        refused(x, "op(0, 3)", x.op(0, 3), 1);
        refused(x, "op(0, -1)", x.op(0, -1), 1);
    }

    private static void store() {
        begin("promise 38");
        SqueezedSwap x = told();
        due("store(0, 1)", x.store(0, 1), 2);
        due("store(1, 2)", x.store(1, 2), 2);
        due("store(2, 0)", x.store(2, 0), 1);
        due("store(3, 3)", x.store(3, 3), 3);
        due("written, not pushed", x.total(0) * 10 + x.total(1), 10);
        due("store(5, 5): 0 is pushed", x.store(5, 5), 2);
        due("page(0)", x.page(0), 3);
        due("its zone has the number that went", x.pooled(5, 1), 0);
        x.hold(1);
        x.hold(5);
        due("store(0, 1): a zone of three frames", x.store(0, 1), 3);
        due("written, and pushed itself", x.total(0) * 10 + x.total(1), 32);
        due("held ones stay", x.page(1) * 10 + x.page(5), 22);
        due("store(6, 2) beside a held one", x.store(6, 2), 2);
        due("its zone", x.pooled(6, 1), 1);
        refused(x, "store(30, 0)", x.store(30, 0), 1);
        refused(x, "store(-1, 0)", x.store(-1, 0), 1);
        refused(x, "store(0, 6)", x.store(0, 6), 1);
        refused(x, "store(0, -1)", x.store(0, -1), 1);
        due("a refusal changes nothing", x.page(0), 3);
    }

    private static void storeAgain() {
        begin("promise 38");
        SqueezedSwap x = told(ROOMY);
        for (int p = 0; p < 5; p++) {
            x.store(p, 0);
        }
        x.drop(0);
        due("zones with 1, 2, 1 pages; the first such", x.store(5, 0), 2);
        due("pooled(5, 1)", x.pooled(5, 1), 0);
        due("pooled(5, 2)", x.pooled(5, 2), 0);
        x.hold(2);
        x.store(2, 0);
        due("what is stored again isn't held", x.pooled(2, 4), 0);
        due("what is stored again is the youngest", x.pooled(2, 3), 4);
        x = told("swap frames 24 step 4 big 15;data 1 x 8,2 x 8");
        for (int p = 0; p < 8; p++) {
            x.store(p, 0);
        }
        x.drop(1);
        x.drop(2);
        x.drop(5);
        x.store(8, 0);
        due("the zone of most pages", x.pooled(8, 1), 1);
        due("its first free slot", x.pooled(8, 2), 1);
        x = told("swap frames 1 step 4 big 15;data 1 x 8,2 x 8;data 1,2,3,4,1,2,3,4,1,2,3,4,1,2,3,4");
        x.store(0, 0);
        due("a page of a class for which there is no room", x.store(1, 1), 3);
        due("the others were pushed ahead of it", x.page(0), 3);
        due("total(1)", x.total(1), 2);
    }

    private static void load() {
        begin("promise 39");
        SqueezedSwap x = filled();
        due("load(0)", x.load(0), 2);
        due("the youngest", x.pooled(0, 3), 2);
        due("load(2)", x.load(2), 1);
        due("load(3)", x.load(3), 3);
        due("read", x.total(2), 1);
        due("it stays on disk", x.page(3), 3);
        refused(x, "load(9)", x.load(9), 5);
        refused(x, "load(30)", x.load(30), 1);
        refused(x, "load(-1)", x.load(-1), 1);
    }

    private static void drop() {
        begin("promise 40");
        SqueezedSwap x = filled();
        due("drop(0)", x.drop(0), 2);
        due("its zone goes", x.about(6), 1);
        due("its frames go", x.about(5), 1);
        due("drop(2)", x.drop(2), 1);
        due("drop(3)", x.drop(3), 3);
        due("page(3)", x.page(3), 0);
        due("nothing more is written", x.total(0), 1);
        refused(x, "drop(3)", x.drop(3), 5);
        refused(x, "drop(30)", x.drop(30), 1);
        refused(x, "drop(-1)", x.drop(-1), 1);
    }

    private static void hold() {
        begin("promise 41");
        SqueezedSwap x = filled();
        due("hold(0)", x.hold(0), true);
        due("trouble()", x.trouble(), 0);
        refused(x, "hold(0)", x.hold(0), 5);
        refused(x, "hold(2)", x.hold(2), 5);
        refused(x, "hold(3)", x.hold(3), 5);
        refused(x, "hold(9)", x.hold(9), 5);
        refused(x, "hold(30)", x.hold(30), 1);
        refused(x, "hold(-1)", x.hold(-1), 1);
        due("the coldest that isn't held", x.writeBack(1), 1);
        due("page(1)", x.page(1), 3);
        due("page(0)", x.page(0), 2);
        x.drop(0);
        x.store(0, 1);
        due("dropped, it isn't held any more", x.hold(0), true);
    }

    private static void release() {
        begin("promise 42");
        SqueezedSwap x = filled();
        refused(x, "release(0)", x.release(0), 5);
        refused(x, "release(9)", x.release(9), 5);
        refused(x, "release(30)", x.release(30), 1);
        refused(x, "release(-1)", x.release(-1), 1);
        x.hold(0);
        due("release(0)", x.release(0), true);
        due("trouble()", x.trouble(), 0);
        due("pooled(0, 4)", x.pooled(0, 4), 0);
        refused(x, "release(0)", x.release(0), 5);
        x.hold(0);
        x.drop(0);
        refused(x, "release(0) of one dropped", x.release(0), 5);
    }

    private static void poke() {
        begin("promise 43");
        SqueezedSwap x = filled();
        due("poke(2, 0, 7)", x.poke(2, 0, 7), 5);
        due("cell(2, 0)", x.cell(2, 0), 7);
        due("squeezed(2)", x.squeezed(2), 6);
        due("read(1, 0)", x.read(1, 0), 5);
        due("pooled(1, 0)", x.pooled(1, 0), 4);
        due("poke(0, 15, 99)", x.poke(0, 15, 99), 7);
        due("sort(0)", x.sort(0), 0);
        due("poke(0, 15, 0)", x.poke(0, 15, 0), 99);
        refused(x, "poke(0, 0, 100)", x.poke(0, 0, 100), 2);
        refused(x, "poke(0, 0, -1)", x.poke(0, 0, -1), 2);
        refused(x, "poke(0, 16, -1)", x.poke(0, 16, -1), 1);
        refused(x, "poke(6, 0, 1)", x.poke(6, 0, 1), 1);
        refused(x, "poke(-1, 0, 1)", x.poke(-1, 0, 1), 1);
    }

    private static void writeBack() {
        begin("promise 44");
        SqueezedSwap x = filled();
        x.hold(1);
        due("writeBack(1)", x.writeBack(1), 1);
        due("page(0)", x.page(0), 3);
        due("written", x.total(0), 2);
        due("not pushed", x.total(1), 0);
        due("writeBack(30)", x.writeBack(30), 1);
        due("page(1), held", x.page(1), 2);
        due("page(4)", x.page(4), 3);
        due("writeBack(1) of nothing", x.writeBack(1), 0);
        refused(x, "writeBack(0)", x.writeBack(0), 2);
        refused(x, "writeBack(31)", x.writeBack(31), 2);
    }

    private static void limit() {
        begin("promise 45");
        SqueezedSwap x = filled();
        due("limit(24)", x.limit(24), 0);
        due("about(0)", x.about(0), 24);
        due("limit(3)", x.limit(3), 1);
        due("page(0)", x.page(0), 3);
        due("written and pushed", x.total(0) * 10 + x.total(1), 21);
        due("limit(1)", x.limit(1), 0);
        x.limit(24);
        x.store(0, 1);
        x.hold(0);
        due("limit(1), one held", x.limit(1), 2);
        due("it stays above the limit", x.about(5), 3);
        due("about(0)", x.about(0), 1);
        due("a slot beside a held one", x.store(5, 1), 2);
        refused(x, "limit(0)", x.limit(0), 2);
        refused(x, "limit(25)", x.limit(25), 2);
    }

    private static void compact() {
        begin("promise 46");
        SqueezedSwap x = holed();
        x.hold(5);
        due("compact()", x.compact(), 1);
        due("the last of the like ones gives to the first", x.slot(0, 1), 5);
        due("pooled(5, 1)", x.pooled(5, 1), 0);
        due("pooled(5, 2)", x.pooled(5, 2), 1);
        due("pooled(5, 3)", x.pooled(5, 3), 2);
        due("held as it was", x.pooled(5, 4), 1);
        due("zone(1, 2)", x.zone(1, 2), 1);
        due("zone(2, 2)", x.zone(2, 2), -1);
        due("total(3)", x.total(3), 1);
        due("compact() again", x.compact(), 0);
        due("total(3)", x.total(3), 1);
        x = told(ROOMY);
        for (int p = 0; p < 9; p++) {
            x.store(p, 1);
        }
        for (int p : new int[] {0, 1, 2, 5, 7}) {
            x.drop(p);
        }
        // Of zones with 1, 2 and 1 pages 2 is emptied into 1, and then 0, too.
        due("compact() of two zones", x.compact(), 2);
        due("total(3)", x.total(3), 2);
        due("slot(1, 0)", x.slot(1, 0), 4);
        due("slot(1, 1)", x.slot(1, 1), 8);
        due("slot(1, 2)", x.slot(1, 2), 6);
        due("slot(1, 3)", x.slot(1, 3), 3);
        due("about(6)", x.about(6), 1);
    }

    private static void run() {
        begin("promise 47");
        SqueezedSwap x = told();
        due("run(2, 2): nothing is there", x.run(2, 2), 2);
        due("size(1)", x.size(1), 1);
        due("run(0, 2)", x.run(0, 2), 2);
        due("aged(0)", x.aged(0), 0);
        due("run(2, 1)", x.run(2, 1), 1);
        due("aged(0)", x.aged(0), 1);
        due("run(3, 24)", x.run(3, 24), 2);
        due("page(1)", x.page(1), 0);
        due("page(2)", x.page(2), 3);
        refused(x, "run(5, 1)", x.run(5, 1), 1);
        refused(x, "run(-1, 1)", x.run(-1, 1), 1);
        refused(x, "run(5, 25)", x.run(5, 25), 1);
        refused(x, "run(0, 0)", x.run(0, 0), 2);
        refused(x, "run(0, 25)", x.run(0, 25), 2);
        due("size(1)", x.size(1), 4);
        x.undo();
        due("a run is undone whole", x.page(1) * 10 + x.page(2), 20);
    }

    private static void undo() {
        begin("promise 48");
        SqueezedSwap x = told();
        refused(x, "undo()", x.undo(), 1);
        for (int p = 0; p < 11; p++) {
            x.store(p, 0);
        }
        for (int p = 10; p > 0; p--) {
            due("page(" + p + ")", x.page(p), 1);
            due("undo()", x.undo(), true);
            due("page(" + p + ")", x.page(p), 0);
        }
        refused(x, "the eleventh undo()", x.undo(), 1);
        due("page(0)", x.page(0), 1);
        x.drop(0);
        x.drop(0);
        due("a refused call isn't kept", x.undo(), true);
        due("page(0)", x.page(0), 1);
        due("trouble()", x.trouble(), 0);
        refused(x, "undo()", x.undo(), 1);
    }

    private static void undoRestoresAll() {
        begin("promise 48");
        SqueezedSwap x = filled();
        x.load(0);
        x.undo();
        due("aged(0) as ahead of loading", x.aged(0), 0);
        x.load(3);
        x.undo();
        due("total(2)", x.total(2), 0);
        x.hold(0);
        x.undo();
        due("pooled(0, 4)", x.pooled(0, 4), 0);
        x.hold(0);
        x.release(0);
        x.undo();
        due("pooled(0, 4)", x.pooled(0, 4), 1);
        x.undo();
        x.poke(2, 0, 9);
        x.undo();
        due("cell(2, 0)", x.cell(2, 0), 5);
        due("squeezed(2)", x.squeezed(2), 4);
        x.writeBack(30);
        x.undo();
        due("page(4)", x.page(4), 2);
        due("total(0)", x.total(0), 1);
        due("slot(1, 1)", x.slot(1, 1), 4);
        x.limit(1);
        x.undo();
        due("about(0)", x.about(0), 4);
        due("about(5)", x.about(5), 4);
        due("total(1)", x.total(1), 0);
        x.store(0, 3);
        x.undo();
        due("read(0, 4)", x.read(0, 4), 1);
        due("pooled(0, 1)", x.pooled(0, 1), 0);
        x.drop(4);
        x.undo();
        due("pooled(4, 3)", x.pooled(4, 3), 2);
        due("size(1)", x.size(1), 5);
        x = holed();
        x.compact();
        x.undo();
        due("zone(2, 2)", x.zone(2, 2), 1);
        due("total(3)", x.total(3), 0);
        x.load(0);
        x.compact();
        x.limit(20);
        x.writeBack(1);
        due("acts that change nothing are kept, too", x.size(1), 10);
    }

    private static void onDisk() {
        begin("promise 49");
        SqueezedSwap x = new SqueezedSwap();
        due("onDisk(0) without a swap", onDisk(x, 0), THROWN);
        x = told();
        x.store(20, 3);
        x.store(3, 3);
        x.store(4, 0);
        x.undo();
        x.undo();
        x.store(5, 3);
        x.home(99);
        due("onDisk(0)", onDisk(x, 0), 5);
        due("onDisk(1)", onDisk(x, 1), 20);
        due("onDisk(2)", onDisk(x, 2), THROWN);
        due("onDisk(-1)", onDisk(x, -1), THROWN);
        due("trouble() that it doesn't change", x.trouble(), 2);
    }

    private static int onDisk(SqueezedSwap x, int i) {
        try {
            return x.onDisk(i);
        } catch (NoSuchElementException e) {
            return THROWN;
        }
    }

    private static void size() {
        begin("promise 50");
        SqueezedSwap x = told();
        x.feed(1, 2, 3, 4, 5);
        x.store(0, 0);
        x.store(1, 0);
        x.store(30, 0);
        due("size(0)", x.size(0), 20);
        due("size(1)", x.size(1), 2);
        due("size(2)", x.size(2), -1);
        due("size(-1)", x.size(-1), -1);
        due("trouble() that it doesn't change", x.trouble(), 1);
    }

    private static void trouble() {
        begin("promise 51");
        SqueezedSwap x = new SqueezedSwap();
        x.swap(1);
        due("2", x.trouble(), 2);
        x.swap(0);
        due("4", x.trouble(), 4);
        x.gain();
        due("1", x.trouble(), 1);
        Driver.tell(x, HEAD + DATA);
        due("0", x.trouble(), 0);
        x.load(0);
        due("5", x.trouble(), 5);
        x.feed(0, 0, 0, 0, 0);
        x.size(9);
        x.fault();
        x.where();
        x.trouble();
        due("5 still", x.trouble(), 5);
        x.waste();
        due("0 again", x.trouble(), 0);
    }
}
