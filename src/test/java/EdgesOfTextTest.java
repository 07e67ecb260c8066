import java.util.List;
import java.util.Map;
import java.util.Set;

/** The edges of promises 1 to 6: a new object, the tape, the text of a swap and its faults. */
public final class EdgesOfTextTest extends Checks {
    private static final String FULL_DATA = ";data 1x16".repeat(10);
    private static final String FULL_OPS = ";store 0 0;load 1;drop 2".repeat(8);

    public static void main(String[] args) {
        runAll(EdgesOfTextTest.class);
    }

    // ---- promise 1: a new object

    static void promise01NothingIsToldYet() {
        SqueezedSwap x = new SqueezedSwap();
        gives(x, "trouble", 0);
        gives(x, "fault", 0);
        gives(x, "where", -1);
        row(x, "size", 0, 0);
        throwsNone(x, "onDisk 0");
    }

    static void promise01WithoutASwapEachCallIsRefusedBy1() {
        for (String call : Calls.GOOD) {
            SqueezedSwap x = new SqueezedSwap();
            due(call, ask(x, call), refusal(call));
            due("trouble() behind " + call, x.trouble(), 1);
        }
    }

    static void promise01WithoutASwap1ComesAheadOfAllOthers() {
        for (String call : Calls.BAD) {
            SqueezedSwap x = new SqueezedSwap();
            due(call, ask(x, call), refusal(call));
            due("trouble() behind " + call, x.trouble(), 1);
        }
    }

    static void promise01ARefusedSwapIsNoSwap() {
        SqueezedSwap x = new SqueezedSwap();
        Driver.tell(x, HEAD + DATA + ";swap");
        refused(x, "about(0)", x.about(0), 1);
        refused(x, "cell(0, 0)", x.cell(0, 0), 1);
        refused(x, "undo()", x.undo(), 1);
    }

    static void promise01ObjectsAreApart() {
        SqueezedSwap x = filled();
        SqueezedSwap y = new SqueezedSwap();
        refused(y, "page(0) of another object", y.page(0), 1);
        gives(x, "page 0", 2);
    }

    static void promise01AnObjectIsGoodFor512Calls() {
        SqueezedSwap x = new SqueezedSwap();
        Driver.feed(x, HEAD + DATA);
        // So many feeds, size and swap.
        int calls = x.size(0) / 20 + 2;
        x.swap((HEAD + DATA).length());
        for (; calls < 511; calls++) {
            x.store(calls % 30, calls % 6);
        }
        due("the 512th call", x.size(1), 10);
    }

    // ---- promise 2: feed

    static void promise02TheTapeTakesNineHundredBytes() {
        SqueezedSwap x = new SqueezedSwap();
        for (int n = 20; n <= 900; n += 20) {
            gives(x, "feed 0 0 0 0 0", n);
        }
        gives(x, "feed 0 0 0 0 0", -1);
        gives(x, "size 0", 900);
        gives(x, "feed 0 0 0 0 0", -1);
        gives(x, "size 0", 900);
    }

    static void promise02OfARefusedFeedNoneComes() {
        SqueezedSwap x = new SqueezedSwap();
        String text = "swap frames 4 step 2 big" + " ".repeat(874) + "12";
        Driver.feed(x, text);
        gives(x, "feed 0 0 0 0 0", -1);
        gives(x, "swap 900", 0);
        gives(x, "about 2", 12);
        gives(x, "feed 0 0 0 0 0", 20);
    }

    static void promise02TheHighestByteIsTheFirst() {
        for (int k = 0; k < 20; k++) {
            faulty(" ".repeat(k), "$" + " ".repeat(19 - k), 1);
        }
        SqueezedSwap x = new SqueezedSwap();
        x.feed(0x73776170, 0x66000000, 0, 0, 0);
        x.swap(4);
        gives(x, "where", 4);
    }

    static void promise02TwentyMoreComeBehindThoseThere() {
        SqueezedSwap x = new SqueezedSwap();
        x.feed(0x20202020, 0x20202020, 0x20202020, 0x20202020, 0x20202020);
        x.feed(0x20202024, 0x20202020, 0x20202020, 0x20202020, 0x20202020);
        x.swap(40);
        gives(x, "where", 23);
    }

    static void promise02BytesGoFrom0To255() {
        for (int b = 0; b < 256; b++) {
            SqueezedSwap x = new SqueezedSwap();
            x.feed(b << 24 | 0x202020, 0x20202020, 0x20202020, 0x20202020, 0x20202020);
            due("swap(20) of byte " + b, x.swap(20), -1);
            due("fault() of byte " + b, x.fault(), 1);
            due("where() of byte " + b, x.where(), b == 32 ? 20 : 0);
        }
    }

    static void promise02FeedLeavesTroubleAsItWas() {
        SqueezedSwap x = new SqueezedSwap();
        x.swap(0);
        for (int i = 0; i < 46; i++) {
            x.feed(0, 0, 0, 0, 0);
        }
        gives(x, "trouble", 4);
        gives(x, "fault", 1);
        gives(x, "where", 0);
    }

    static void promise02FeedLeavesTheSwapAsItIs() {
        alike("a feed", Checks::rich, () -> after(rich(), "feed 1 2 3 4 5"), "size 0");
    }

    // ---- promise 3: swap

    static void promise03MoreBytesThanThereAreAreRefusedBy2() {
        refuses(2, "swap 41", "swap 900", "swap 901", "swap 2147483647");
        SqueezedSwap x = new SqueezedSwap();
        refused(x, "swap(1) of an empty tape", x.swap(1), 2);
    }

    static void promise03FewerThanNoBytesAreRefusedBy2() {
        refuses(2, "swap -1", "swap -2147483648");
    }

    static void promise03RefusedBy2TheTapeStays() {
        SqueezedSwap x = new SqueezedSwap();
        Driver.feed(x, HEAD + ";load 1 ");
        gives(x, "size 0", 40);
        refused(x, "swap(41)", x.swap(41), 2);
        gives(x, "size 0", 40);
        gives(x, "swap 35", 0);
        gives(x, "about 4", 1);
    }

    static void promise03AllBytesThatThereAreMayBeTheText() {
        SqueezedSwap x = new SqueezedSwap();
        Driver.feed(x, HEAD + ";load 11;drop");
        refused(x, "swap(40)", x.swap(40), 4);
        gives(x, "where", 40);
        gives(x, "size 0", 0);
    }

    static void promise03NoBytesAreATextWithAFault() {
        SqueezedSwap x = rich();
        refused(x, "swap(0)", x.swap(0), 4);
        gives(x, "fault", 1);
        gives(x, "size 0", 0);
    }

    static void promise03OnlyTheFirstNBytesCount() {
        SqueezedSwap x = new SqueezedSwap();
        Driver.feed(x, HEAD + "34567890;swap$");
        gives(x, "swap " + HEAD.length(), 0);
        gives(x, "about 2", 12);
        gives(x, "size 0", 0);
    }

    static void promise03RefusedBy4TheSwapStaysAndTheTapeIsEmpty() {
        for (String call : List.of("swap 0", "swap 3", "swap 40")) {
            SqueezedSwap x = rich();
            refused(x, call, ask(x, call), 4);
            gives(x, "size 0", 0);
            alike(call, Checks::rich, () -> after(rich(), call), "size 0", "fault");
            alike(call + " and an undo", () -> after(rich(), "undo"), () -> after(rich(), call, "undo"), "size 0", "fault");
        }
    }

    static void promise03FromANewSwapOnNothingIsStored() {
        SqueezedSwap x = rich();
        gives(x, "swap 33", 0);
        for (int p = 0; p < 30; p++) {
            gives(x, "page " + p, 0);
        }
        row(x, "about", 3, 1, 4, 0, 1, 0, 0, 0, 0, 0, 0);
        row(x, "total", 0, 0, 0, 0);
        throwsNone(x, "onDisk 0");
        refused(x, "zone(0, 0)", x.zone(0, 0), 1);
        refused(x, "aged(0)", x.aged(0), 1);
    }

    static void promise03FromANewSwapOnNothingIsToBeUndone() {
        SqueezedSwap x = rich();
        gives(x, "size 1", 10);
        x.swap(33);
        gives(x, "size 1", 0);
        refused(x, "undo()", x.undo(), 1);
    }

    static void promise03FromANewSwapOnNothingIsHeldOrPoked() {
        SqueezedSwap x = after(told(), "store 1 2", "hold 1", "poke 2 0 9");
        Driver.tell(x, HEAD + DATA);
        gives(x, "cell 2 0", 5);
        gives(x, "store 1 2", 2);
        gives(x, "pooled 1 4", 0);
    }

    static void promise03OfATextThatWasRefusedNothingStays() {
        SqueezedSwap x = new SqueezedSwap();
        Driver.tell(x, "swap frames 9 step 3 big 9" + DATA + OPS + ";swap");
        due("the next swap", Driver.tell(x, HEAD), 0);
        row(x, "about", 4, 2, 12, 0, 0);
    }

    static void promise03OfFormerSwapsNothingStays() {
        SqueezedSwap x = told();
        for (int i = 0; i < 3; i++) {
            due("a swap with data", Driver.tell(x, HEAD + DATA + OPS), 6);
            row(x, "about", 4, 2, 12, 6, 5);
            due("a swap without data", Driver.tell(x, "swap frames 1 step 1 big 4"), 0);
            row(x, "about", 1, 1, 4, 0, 0);
        }
    }

    static void promise03NoneToTenDataAreCounted() {
        for (int data = 0; data <= 10; data++) {
            SqueezedSwap x = new SqueezedSwap();
            due(data + " data", Driver.tell(x, HEAD + ";data 1x16".repeat(data)), data);
            gives(x, "about 3", data);
        }
    }

    static void promise03ATextMayHaveNineHundredBytes() {
        SqueezedSwap x = new SqueezedSwap();
        String text = " ".repeat(900 - HEAD.length() - 11) + HEAD + ";data 3x16 ";
        due("900 bytes", Driver.tell(x, text), 1);
        faulty(text.substring(0, 899), "$", 1);
    }

    // ---- promise 3: tokens

    static void promise03BlanksMeanNothingButThatTheyPartTokens() {
        told("swap frames4step2big12;data1x15,2;store0 0;load1;drop2");
        told("  swap  frames  4  step  2  big  12  ;  data  1  x  15  ,  2  ;  store  0  0  ;  load  1  ; drop 2 ");
        faulty("swap frames 4 step 2 big 4 ", "2", 1);
        faulty("", "sw ap frames 4 step 2 big 12", 1);
        faulty("", "swapframes 4 step 2 big 12", 1);
        faulty(HEAD + ";data 1x16;store 00", ";", 1);
    }

    static void promise03OnlyTheByte32IsABlank() {
        for (char sign : new char[] {0, 9, 10, 11, 12, 13, 31, 33, 127, 160, 255}) {
            faulty(HEAD, sign + ";data 1x16", 1);
        }
    }

    static void promise03OnlySmallLettersAreOfWords() {
        for (String sign : List.of("`", "{", "A", "Z", "@", "[", "\u00e1", "\u00fa")) {
            faulty("swap ", sign + "rames 4", 1);
            faulty("swap ", "fra" + sign, 1);
        }
        faulty("swap frames 4 ", "stepa 2", 1);
        faulty("swap frames 4 ", "stepz 2", 1);
    }

    static void promise03OnlyDigitsAreOfWholes() {
        for (String sign : List.of("/", ":", "-", "+", ".")) {
            faulty("swap frames ", sign + "4", 1);
            faulty("swap frames 4", sign, 1);
        }
        gives(told("swap frames 10 step 2 big 9"), "about 0", 10);
        gives(told("swap frames 19 step 2 big 9"), "about 0", 19);
    }

    static void promise03AWordHasSixLettersAtMost() {
        told("swap frames 4 step 2 big 12");
        faulty("swap ", "framess 4", 1);
        faulty("swap ", "framesframes 4", 1);
        faulty("", "s".repeat(900), 1);
    }

    static void promise03AWholeHasThreeDigitsAtMost() {
        gives(told("swap frames 004 step 002 big 012;data 000x016"), "cell 0 15", 0);
        faulty("swap frames ", "0004 step 2 big 12", 1);
        faulty("swap frames ", "1000", 1);
        faulty("swap frames ", "999", 2);
        faulty("swap frames 4 step 2 big ", "1".repeat(800), 1);
        faulty("swap frames ", "4294967297", 1);
    }

    static void promise03OneOfSemicolonAndCommaStandsAlone() {
        faulty(HEAD + ";", ";data 1x16", 1);
        faulty(HEAD + ";data 1x15,", ",1", 1);
        faulty(HEAD + ";data 1x16,", ";", 1);
    }

    // ---- promise 3: the form

    private static final List<String> TOKENS = List.of("swap", "frames", "step", "big", "data", "x", "store", "load",
        "drop", "7", ";", ",", "", "$", "y", "1000");

    /** Of the tokens that may stand behind a good beginning, those that don't break the form. */
    private static void goesOnWith(String good, String... tokens) {
        for (String token : TOKENS) {
            SqueezedSwap x = new SqueezedSwap();
            int answer = Driver.tell(x, good + token);
            boolean broken = answer < 0 && x.fault() == 1 && x.where() == good.length();
            due("a fault of form at '" + token + "' behind '" + good + "'", broken, !Set.of(tokens).contains(token));
        }
    }

    static void promise03Fault1InASwapLine() {
        goesOnWith("", "swap", "data", "store", "load", "drop");
        goesOnWith("swap ", "frames");
        goesOnWith("swap frames ", "7");
        goesOnWith("swap frames 4 ", "step");
        goesOnWith("swap frames 4 step ", "7");
        goesOnWith("swap frames 4 step 2 ", "big");
        goesOnWith("swap frames 4 step 2 big ", "7");
        goesOnWith(HEAD + " ", ";", "");
        goesOnWith(HEAD + ";", "swap", "data", "store", "load", "drop");
    }

    static void promise03Fault1InADataLine() {
        goesOnWith(HEAD + ";data ", "7");
        goesOnWith(HEAD + ";data 1 ", "x", ",", ";", "");
        goesOnWith(HEAD + ";data 1 x ", "7");
        goesOnWith(HEAD + ";data 1 x 2 ", ",", ";", "");
        goesOnWith(HEAD + ";data 1 x 2, ", "7");
        goesOnWith(HEAD + ";data 1 x 2,3 ", "x", ",", ";", "");
        goesOnWith(HEAD + ";data 1 x 16 ", ",", ";", "");
        goesOnWith(HEAD + ";data 1 x 15,3 ", "x", ",", ";", "");
        goesOnWith(HEAD + ";data 1 x 16;", "swap", "data", "store", "load", "drop");
    }

    static void promise03Fault1InAnOp() {
        goesOnWith(HEAD + ";data 1x16;store ", "7");
        goesOnWith(HEAD + ";data 1x16;store 1 ", "7");
        goesOnWith(HEAD + ";data 1x16;store 1 0 ", ";", "");
        goesOnWith(HEAD + ";load ", "7");
        goesOnWith(HEAD + ";load 1 ", ";", "");
        goesOnWith(HEAD + ";drop ", "7");
        goesOnWith(HEAD + ";drop 1 ", ";", "");
        goesOnWith(HEAD + ";drop 1;", "swap", "data", "store", "load", "drop");
    }

    static void promise03Fault1AtTheEndHasItsPlace() {
        faulty("", 1, 0);
        faulty("     ", 1, 5);
        faulty(" ".repeat(900), 1, 900);
        faulty(HEAD + ";", 1, HEAD.length() + 1);
        faulty(HEAD + ";  ", 1, HEAD.length() + 3);
        faulty(HEAD + ";data 1 x", 1, HEAD.length() + 9);
    }

    // ---- promise 3: numbers

    private static void wholes(String good, int least, int most, String behind) {
        told(good + least + behind);
        told(good + most + behind);
        if (least > 0) {
            faulty(good, (least - 1) + behind, 2);
        }
        faulty(good, (most + 1) + behind, 2);
        faulty(good, "999" + behind, 2);
    }

    static void promise03Fault2OfTheLimit() {
        wholes("swap frames ", 1, 24, " step 1 big 4");
    }

    static void promise03Fault2OfTheStep() {
        wholes("swap frames 1 step ", 1, 4, " big 4");
    }

    static void promise03Fault2OfBig() {
        wholes("swap frames 1 step 1 big ", 4, 15, "");
    }

    static void promise03Fault2OfACell() {
        wholes(HEAD + ";data ", 0, 99, "x16");
        wholes(HEAD + ";data 1x15,", 0, 99, "");
    }

    static void promise03Fault2OfHowManyTimes() {
        faulty(HEAD + ";data 1x", "0", 2);
        faulty(HEAD + ";data 1x", "0,1x16", 2);
        told(HEAD + ";data 1x1,1x15");
        told(HEAD + ";data 1x16");
        faulty(HEAD + ";data 1x", "17", 2);
        faulty(HEAD + ";data 1x", "999", 2);
    }

    static void promise03Fault2OfAPage() {
        wholes(HEAD + ";load ", 0, 29, "");
        wholes(HEAD + ";drop ", 0, 29, "");
        wholes(HEAD + ";data 1x16;store ", 0, 29, " 0");
    }

    static void promise03Fault2OfDataThatArentTold() {
        faulty(HEAD + ";store 0 ", "0", 2);
        faulty(HEAD + ";store 0 ", "0;data 1x16", 2);
        wholes(HEAD + ";data 1x16;store 0 ", 0, 0, "");
        wholes(HEAD + FULL_DATA + ";store 0 ", 0, 9, "");
        faulty(HEAD + ";data 1x16;store 0 0;store 0 ", "1;data 1x16;store 0 1", 2);
        told(HEAD + ";data 1x16;store 0 0;data 1x16;store 0 1");
    }

    // ---- promise 3: lines

    static void promise03Fault3IsASecondSwap() {
        faulty(HEAD + ";", HEAD, 3);
        faulty(HEAD + ";", "swap", 3);
        faulty(HEAD + "; ", "swap $", 3);
        faulty(HEAD + ";data 1x16;load 1;", "swap frames 25", 3);
        faulty(HEAD + FULL_DATA + ";", "swap", 3);
    }

    static void promise03Fault4IsAnEleventhOfTheData() {
        told(HEAD + FULL_DATA);
        faulty(HEAD + FULL_DATA + "; ", "data 1x16", 4);
        faulty(HEAD + FULL_DATA + ";", "data $", 4);
        faulty(HEAD + FULL_DATA + ";load 1;", "data", 4);
        told(HEAD + FULL_DATA + FULL_OPS);
    }

    static void promise03Fault4IsATwentyFifthOfTheOps() {
        gives(told(HEAD + ";data 1x16" + FULL_OPS), "about 4", 24);
        for (String op : List.of("store 0 0", "load 1", "drop 2")) {
            gives(told(HEAD + ";data 1x16" + (";" + op).repeat(24)), "about 4", 24);
            faulty(HEAD + ";data 1x16" + FULL_OPS + ";", op, 4);
            faulty(HEAD + ";data 1x16" + (";" + op).repeat(24) + ";", op, 4);
        }
        faulty(HEAD + ";data 1x16" + FULL_OPS + ";", "load 30", 4);
        told(HEAD + ";data 1x16" + FULL_OPS + ";data 1x16".repeat(9));
    }

    static void promise03Fault5IsALineAheadOfTheSwap() {
        for (String line : List.of("data 1x16", "store 0 0", "load 1", "drop 1")) {
            faulty("", line + ";" + HEAD, 5);
            faulty("  ", line, 5);
        }
        for (String word : List.of("data", "store", "load", "drop")) {
            faulty("", word + " $", 5);
            faulty("", word, 5);
        }
    }

    static void promise03Fault6IsMoreThanSixteenCells() {
        told(HEAD + ";data 1,2,3,4,5,6,7,8,9,10,11,12,13,14,15,16");
        faulty(HEAD + ";data 1,2,3,4,5,6,7,8,9,10,11,12,13,14,15,16,", "17", 6);
        faulty(HEAD + ";data 1x15,2,", "3", 6);
        faulty(HEAD + ";data 1x16,", "2", 6);
        faulty(HEAD + ";data 1x16,", "2x1", 6);
        faulty(HEAD + ";data 1x16,", "2x0", 6);
        faulty(HEAD + ";data 1x16,", "2 $", 6);
        faulty(HEAD + ";data 1x15,2x", "2", 6);
        faulty(HEAD + ";data 1x15,2x", "16", 6);
        faulty(HEAD + ";data 1,2x", "16", 6);
        told(HEAD + ";data 1,2x15");
        told(HEAD + ";data 1x15,2x1");
    }

    static void promise03Fault6IsFewerThanSixteenCells() {
        faulty(HEAD + ";data 1x15", "", 6);
        faulty(HEAD + ";data 1x15   ", "", 6);
        faulty(HEAD + ";data 1x15", ";", 6);
        faulty(HEAD + ";data 1x15  ", ";data 1x16", 6);
        faulty(HEAD + ";data 1", ";", 6);
        faulty(HEAD + ";data 1,2,3,4,5,6,7,8,9,10,11,12,13,14,15", "", 6);
        faulty(HEAD + ";data 1x7,2x8", ";swap", 6);
    }

    static void promise03TheFirstFaultFromTheLeftCounts() {
        faulty("swap frames ", "25 $", 2);
        faulty("swap frames 1 ", "$ step 5", 1);
        faulty("swap frames ", "0 step 0 big 0;swap", 2);
        faulty(HEAD + ";data 1x15", ";swap", 6);
        faulty(HEAD + ";data ", "100x17", 2);
        faulty(HEAD + ";store ", "30 9", 2);
    }

    static void promise03OfOnePlaceTheLeastNumberCounts() {
        // 1 ahead of 5, of 6 and of 2; 2 ahead of 6.
        faulty("", "", 1);
        faulty(HEAD + ";data 1x15 ", "data", 1);
        faulty(HEAD + ";data 1x", "1000", 1);
        faulty(HEAD + ";data 1x", "17", 2);
        faulty(HEAD + ";data 1x16,", "100", 2);
        faulty(HEAD + ";data 1x15,1x", "17", 2);
        faulty(HEAD + ";data 1x15,1x", "0", 2);
    }

    // ---- promise 4: fault

    static void promise04EachFaultHasItsNumber() {
        Map<String, Integer> faults = Map.of("", 1, "swap frames 0", 2, HEAD + ";swap", 3, HEAD + ";data 1x16".repeat(11),
            4, "load 1", 5, HEAD + ";data 1", 6, HEAD, 0);
        faults.forEach((text, number) -> {
            SqueezedSwap x = new SqueezedSwap();
            Driver.tell(x, text);
            due("fault() of " + text, x.fault(), number);
        });
    }

    static void promise04ASwapRefusedBy2LeavesIt() {
        SqueezedSwap x = new SqueezedSwap();
        Driver.tell(x, "swap frames 0");
        for (String call : List.of("swap -1", "swap 1", "swap 901")) {
            ask(x, call);
            gives(x, "fault", 2);
        }
        Driver.tell(x, HEAD);
        x.swap(-1);
        gives(x, "fault", 0);
    }

    static void promise04OtherCallsLeaveIt() {
        for (String call : Calls.GOOD) {
            SqueezedSwap x = rich();
            x.swap(0);
            ask(x, call);
            due("fault() behind " + call, x.fault(), 1);
        }
    }

    static void promise04TheLatestSwapCounts() {
        SqueezedSwap x = new SqueezedSwap();
        Driver.tell(x, "load 1");
        gives(x, "fault", 5);
        Driver.tell(x, "swap frames 0");
        gives(x, "fault", 2);
        Driver.tell(x, HEAD);
        gives(x, "fault", 0);
    }

    // ---- promise 5: where

    static void promise05ThePlaceGoesFrom0To900() {
        faulty("$", 1, 0);
        faulty(" ".repeat(899), "$", 1);
        faulty(" ".repeat(900), 1, 900);
    }

    static void promise05NoneBehindACallThatIsNotRefusedBy4() {
        for (String call : Calls.GOOD) {
            SqueezedSwap x = rich();
            x.swap(0);
            due("where() ahead of " + call, x.where(), 0);
            ask(x, call);
            due("where() behind " + call, x.where(), -1);
        }
        for (String call : Calls.BAD) {
            SqueezedSwap x = rich();
            x.swap(0);
            ask(x, call);
            due("where() behind " + call, x.where(), -1);
        }
    }

    static void promise05NoneBehindASwapRefusedBy2OrRead() {
        SqueezedSwap x = new SqueezedSwap();
        x.swap(0);
        x.swap(1);
        gives(x, "where", -1);
        x.swap(0);
        gives(x, "where", 0);
        Driver.tell(x, HEAD);
        gives(x, "where", -1);
    }

    static void promise05CallsThatCantBeRefusedLeaveIt() {
        SqueezedSwap x = rich();
        x.swap(3);
        int place = x.where();
        due("where()", place, 0);
        for (String call : List.of("feed 1 2 3 4 5", "fault", "where", "onDisk 0", "onDisk 9", "size 0", "size 9",
            "trouble")) {
            ask(x, call);
            due("where() behind " + call, x.where(), place);
        }
    }

    // ---- promise 6: about

    static void promise06WhatGoesFrom0To10() {
        bounds(1, "about #", 0, 10);
    }

    static void promise06OfAnEmptyPoolAllIsNone() {
        SqueezedSwap x = told("swap frames 1 step 1 big 4");
        row(x, "about", 1, 1, 4, 0, 0, 0, 0, 0, 0, 0, 0);
        x = told("swap frames 24 step 4 big 15" + FULL_DATA + FULL_OPS);
        row(x, "about", 24, 4, 15, 10, 24, 0, 0, 0, 0, 0, 0);
    }

    static void promise06OfAFullPool() {
        // Of class 13 each page has a zone and a frame of its own.
        SqueezedSwap x = stores(told(swapOf(24, 1, 15, 13)), 0, 24, 0);
        row(x, "about", 24, 1, 15, 1, 0, 24, 24, 24, 0, 0, 312);
        x.store(29, 0);
        row(x, "about", 24, 1, 15, 1, 0, 24, 24, 24, 0, 1, 312);
        // Of class 4 four have one.
        x = stores(told(swapOf(8, 4, 15, 4)), 0, 30, 0);
        row(x, "about", 8, 4, 15, 1, 0, 8, 8, 30, 0, 0, 120);
    }

    static void promise06AllPagesAreWordsOrOnDisk() {
        SqueezedSwap x = stores(told(swapOf(8, 4, 4, 2, 5)), 0, 30, 0);
        gives(x, "about 8", 30);
        gives(x, "about 9", 0);
        stores(x, 0, 30, 1);
        gives(x, "about 8", 0);
        gives(x, "about 9", 30);
    }

    static void promise06TheLimitIsTheOneOfNow() {
        SqueezedSwap x = told();
        gives(x, "about 0", 4);
        x.limit(24);
        gives(x, "about 0", 24);
        x.limit(1);
        gives(x, "about 0", 1);
        x.undo();
        gives(x, "about 0", 24);
    }
}
