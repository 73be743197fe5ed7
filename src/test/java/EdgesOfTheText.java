import java.util.function.Supplier;

/** THE TEXT and what is LAID: promises 1 to 7. */
public final class EdgesOfTheText {
    private static final int BAD = Sentences.BAD, NO = Sentences.NO, FULL = Sentences.FULL, NONE = Sentences.NONE;
    private static final Sentences the = new Sentences();

    public static void main(String[] args) {
        newObject();
        letters();
        mostLetters();
        wiping();
        figures();
        signsThatPart();
        lettersOfItems();
        ranges();
        eightAtMost();
        without();
        lastOneCounts();
        firstFault();
        noFault();
        layRefused();
        layAnew();
        birdOfTheFlock();
        windOfAMinute();
        lastCallThatIsTold();
        the.end();
    }

    private static void newObject() {
        the.says("1: As told; THE TEXT is empty.");
        BirdBridge x = new BirdBridge();
        the.due("count of letters", x.count(10), 0);
        the.due("fault", x.fault(), NONE);
        the.refused("lay", NO, BirdBridge::new, BirdBridge::lay);
        the.due("wipe", x.wipe(), 0);

        the.says("at first b30,2,0,5;b20,1,1,0;b18,2,2,9;b40,1,3,3;b25,2,4,7;r5;w2;w6;w0;l12,1;");
        the.due("birds", x.count(0), 5);
        the.row("last bird", what -> x.bird(4, what), -1, BAD, 25, 2, 4, 7, 0, NONE, BAD);
        the.due("the bird behind it", x.bird(5, 0), BAD);
        the.due("places", x.count(3), 5);
        the.row("wind", x::wind, -1, BAD, 2, 6, 0, 2, 6, 0);
        the.due("heavy in year 0", new BirdBridge().year(0), 12);
        the.due("heavy in year 20", new BirdBridge().year(20), 32);

        the.says("At first it is minute 0 and she is on the left bank.");
        the.row("count", x::count, 1, 0, 0, 5, 0, 0, 0, 0, 0, 0, 0, BAD);
        the.due("stand", x.stand(), NO);
        the.due("first of no bridge", x.span(0, 0), BAD);
        the.due("leave", x.leave(), NO);
        the.due("undo", x.undo(), NO);
        the.due("back", x.back(), NO);
        the.due("forget", x.forget(), 0);
    }

    private static void letters() {
        the.says("2: A letter (32 to 126, as in ASCII) comes behind THE TEXT: how long it is. BAD");
        int[] none = {31, 127, 0, -1, -98, 128, 255, 256, 256 + 'b', 65536 + 'b', Integer.MIN_VALUE, Integer.MAX_VALUE};
        for (int letter : none) {
            the.refused("write " + letter, BAD, () -> Sentences.told("b9,1,0,0;"), x -> x.write(letter));
        }
        BirdBridge x = new BirdBridge();
        for (int letter = 32; letter <= 126; letter++) {
            the.due("write " + letter, x.write(letter), letter - 31);
        }
    }

    private static void mostLetters() {
        the.says("1 A TEXT is letters (200 at most)");
        String full = Sentences.many("b60,1,0,40;", 8) + "r09;" + Sentences.many("r9;", 36);
        the.due("letters of the longest text", full.length(), 200);
        the.due("fault of 200 letters", Sentences.told(full).fault(), NONE);
        the.due("lay of 200 letters", Sentences.told(full).lay(), 8);
        the.due("letters", Sentences.told(full).count(10), 200);
        the.refused("the 201st", FULL, () -> Sentences.told(full), x -> x.write(';'));
        BirdBridge cut = Sentences.told(Sentences.many("r9;", 66) + "r9");
        the.due("the ; that had no room", cut.write(';'), FULL);
        the.due("its fault", cut.fault(), 198);
        the.due("room for one", Sentences.told(full.substring(1)).write(';'), 200);

        the.says("Of several the first in this order (write: BAD; FULL)");
        the.refused("no letter, and no room", BAD, () -> Sentences.told(full), x -> x.write(127));
    }

    private static void wiping() {
        the.says("3: THE TEXT is empty: how long it was.");
        the.looks("an empty one", 0, EdgesOfTheText::emptied, BirdBridge::wipe);
        the.due("one letter", Sentences.told("b").wipe(), 1);
        BirdBridge x = Sentences.told(Sentences.many("x", 200));
        the.due("200 letters", x.wipe(), 200);
        the.due("again", x.wipe(), 0);
        the.due("fault behind it", x.fault(), NONE);
        the.due("lay behind it", x.lay(), NO);
        the.due("room again", x.write('b'), 1);
        BirdBridge half = Sentences.told("b9,1,0,0;");
        half.wipe();
        half.write('b');
        half.write('9');
        the.due("no old letter comes back", half.fault(), 0);
        BirdBridge end = Sentences.told("r5;");
        end.wipe();
        end.write('r');
        end.write('5');
        the.due("nor the ; that ended it", end.fault(), 0);
        BirdBridge laid = Sentences.laid("b9,1,0,0;r1;", 0);
        laid.wipe();
        the.due("what is laid stays", laid.count(0) + laid.count(1) + laid.count(3), 3);
    }

    private static BirdBridge emptied() {
        BirdBridge x = Sentences.laid("b9,1,0,0;r1;", 0);
        x.wipe();
        return x;
    }

    private static void faultOf(String text, int want) {
        the.due("fault of '" + text + "'", Sentences.told(text).fault(), want);
    }

    /** The ITEM is not so: as the first one, behind others, and ahead of others. */
    private static void notSo(String item) {
        faultOf(item, 0);
        faultOf("r5;w12;" + item, 7);
        faultOf(item + "r5;", 0);
        the.due("lay of " + item, Sentences.told("b9,1,0,0;" + item).lay(), NO);
    }

    private static void so(String item) {
        faultOf(item, NONE);
        faultOf("r5;" + item + "r6;", NONE);
        the.due("lay of " + item, Sentences.told("b9,1,0,0;" + item).lay() > 0 ? 1 : 0, 1);
    }

    private static void figures() {
        the.says("numbers (one or two figures)");
        for (String item : new String[] {"r5;", "r05;", "w00;", "w0;", "l01,00;", "b01,01,00,00;", "b60,3,4,40;"}) {
            so(item);
        }
        for (String item : new String[] {"r;", "w;", "l,1;", "l1,;", "b,1,0,0;", "b1,,0,0;", "b1,1,,0;", "b1,1,0,;"}) {
            notSo(item);
        }
        for (String item : new String[] {"r005;", "r500;", "w000;", "l001,1;", "l1,001;", "b001,1,0,0;", "b1,001,0,0;",
            "b1,1,000,0;", "b1,1,0,000;"}) {
            notSo(item);
        }
        for (String item : new String[] {"r-5;", "r+5;", "r 5;", "r5 ;", "rx;", "r/;", "r:;", "r5x;", "r5/;", "r5:;", "r1.;"}) {
            notSo(item);
        }
    }

    private static void signsThatPart() {
        the.says("parted by ,");
        for (String item : new String[] {"b1.1,0,0;", "b1,1.0,0;", "b1,1,0.0;", "b1;1,0,0;", "b1,1;0,0;", "b1,1,0;0;", "l1;1;",
            "l1 1;", "l1,,1;", "l,1,1;"}) {
            notSo(item);
        }
        the.says("and a ; behind the last one");
        for (String item : new String[] {"r5", "r5,", "r5:", "r5,;", "w5", "w5.", "l1,1", "l1,1,", "b1,1,0,0", "b1,1,0,0,"}) {
            notSo(item);
        }
        the.says("each a letter, then numbers (too few, too many)");
        for (String item : new String[] {"b;", "b1;", "b1,1;", "b1,1,0;", "b1,1,0,0,0;", "l1;", "l1,1,1;", "r5,5;", "w5,5;",
            "b", "l", "r", "w", "b1,1,0,", "l1,"}) {
            notSo(item);
        }
    }

    private static void lettersOfItems() {
        the.says("ITEMS one behind the other, each a letter");
        for (char letter = 32; letter <= 126; letter++) {
            if ("brwl".indexOf(letter) < 0) {
                faultOf(letter + "5;", 0);
                faultOf("r5;" + letter, 3);
                faultOf("r5;" + letter + "5,1,0,0;", 3);
            }
        }
        faultOf("r5;;", 3);
        faultOf("r5; r5;", 3);
        faultOf("r5;r5; ", 6);
    }

    private static void ranges() {
        the.says("bS,L,K,D a BIRD of STRENGTH S (1 to 60)");
        notSo("b0,1,0,0;");
        so("b1,1,0,0;");
        so("b60,1,0,0;");
        notSo("b61,1,0,0;");
        notSo("b99,1,0,0;");
        the.says("that spans L (1 to 3) places");
        notSo("b1,0,0,0;");
        so("b1,3,0,0;");
        notSo("b1,4,0,0;");
        the.says("of KIND K (0 MAGPIE, 1 CROW, 2 FLEDGLING, 3 PROUD, 4 PAIRED)");
        so("b1,1,4,0;");
        notSo("b1,1,5,0;");
        the.says("whose WOOD is D (0 to 40) minutes away");
        so("b1,1,0,0;");
        so("b1,1,0,40;");
        notSo("b1,1,0,41;");
        the.says("rW the RIVER is W (1 to 9) places broad");
        notSo("r0;");
        so("r1;");
        so("r9;");
        notSo("r10;");
        the.says("wV a WIND of V (0 to 20)");
        so("w0;");
        so("w20;");
        notSo("w21;");
        the.says("lH,G she is H (1 to 40) heavy in YEAR 0");
        notSo("l0,1;");
        so("l1,1;");
        so("l40,1;");
        notSo("l41,1;");
        the.says("G (0 to 9) heavier each YEAR");
        so("l1,0;");
        so("l1,9;");
        notSo("l1,10;");
        BirdBridge x = Sentences.laid("b60,3,4,40;b1,1,0,0;r9;w20;l40,9;");
        the.row("the most that a bird is", what -> x.bird(0, what), 0, 60, 3, 4, 40);
        the.row("the least that a bird is", what -> x.bird(1, what), 0, 1, 1, 0, 0);
        the.due("the broadest", x.count(3), 9);
        the.due("the strongest wind", x.wind(0), 20);
        the.due("the heaviest", x.year(20), 220);
    }

    private static void eightAtMost() {
        String bird = "b9,1,0,0;";
        the.says("8 at most, 0, 1, ..");
        faultOf(Sentences.many(bird, 8), NONE);
        faultOf(Sentences.many(bird, 9), 72);
        faultOf(Sentences.many(bird, 8) + "r5;" + bird + "x", 75);
        faultOf(Sentences.many(bird, 9) + "x", 72);
        the.due("lay of eight", Sentences.told(Sentences.many(bird, 8)).lay(), 8);
        the.refused("lay of nine", NO, () -> Sentences.told(Sentences.many(bird, 9)), BirdBridge::lay);
        the.says("wV a WIND of V (0 to 20), that of minute 0, 1, ..; 8 at most");
        faultOf(Sentences.many("w9;", 8), NONE);
        faultOf(Sentences.many("w9;", 9), 24);
        faultOf(Sentences.many("w9;", 8) + bird + "w9;", 33);
        the.refused("lay of nine winds", NO, () -> Sentences.told(bird + Sentences.many("w9;", 9)), BirdBridge::lay);
        the.says("of several such the last one counts (as many as there is room for)");
        faultOf(Sentences.many("r9;", 66), NONE);
        faultOf(Sentences.many("l9,1;", 40), NONE);
    }

    private static void without() {
        BirdBridge x = Sentences.laid("b9,1,0,0;r2;w7;l3,3;");
        Sentences.tell(x, "b9,1,0,0;");
        x.lay();
        the.says("0 to W less 1 (5 without");
        the.due("places", x.count(3), 5);
        the.says("0 always without any");
        for (int t : new int[] {0, 1, 50, 99}) {
            the.due("wind " + t, x.wind(t), 0);
        }
        the.says("12, 1 without");
        the.due("heavy in year 0", x.year(0), 12);
        the.due("heavy in year 20", x.year(20), 32);
    }

    private static void lastOneCounts() {
        the.says("of several such the last one counts (r)");
        the.due("r9 ahead of r1", Sentences.laid("r9;b9,1,0,0;r4;r1;").count(3), 1);
        the.due("r1 ahead of r9", Sentences.laid("r1;b9,1,0,0;r9;").count(3), 9);
        the.says("of several such the last one counts (l)");
        the.due("l2,3", Sentences.laid("l40,9;b9,1,0,0;l2,3;").year(1), 5);
        the.due("l40,9", Sentences.laid("l2,3;b9,1,0,0;l40,9;").year(1), 49);
        the.says("FAULT: ... the first ITEM that is not so (though a later one counts)");
        faultOf("b9,1,0,0;r0;r5;", 9);
        faultOf("b9,1,0,0;l0,0;l5,1;", 9);
    }

    private static void firstFault() {
        the.says("FAULT: the place (from 0 on) of the first letter of the first ITEM that is not so.");
        faultOf("x", 0);
        faultOf("r5;x", 3);
        faultOf("r0;w21;x", 0);
        faultOf("r5;w21;x", 3);
        faultOf("r5;w20;x", 7);
        faultOf("r5;b1,1,0,41;", 3);
        faultOf("r5;b1,1,0,4", 3);
        faultOf(Sentences.many("r9;", 63) + "w10;w10;r0;", 197);
        faultOf(Sentences.many("r9;", 66) + "r", 198);
        faultOf(Sentences.many("r9;", 65) + "w10;x", 199);
        faultOf(Sentences.many("x", 200), 0);
        the.looks("fault", 9, () -> richNight("b9,1,0,0;x"), BirdBridge::fault);
    }

    private static void noFault() {
        the.says("4: FAULT. NONE.");
        faultOf("", NONE);
        faultOf("r5;", NONE);
        faultOf("b9,1,0,0;", NONE);
        the.looks("fault", NONE, () -> richNight("b9,1,0,0;"), BirdBridge::fault);
    }

    /** A night in which all is under way, with a text that waits. */
    private static BirdBridge richNight(String text) {
        BirdBridge x = Sentences.laid("b60,1,0,0;b60,2,2,3;r2;w3;w9;l17,2;", 0, 1);
        x.year(4);
        x.seen(0, 3);
        x.seen(1, 2);
        x.keep();
        x.step();
        x.keep();
        x.stand();
        Sentences.tell(x, text);
        return x;
    }

    private static void layRefused() {
        the.says("LAID is a TEXT without FAULT, of a BIRD at least (NO else");
        for (String text : new String[] {"", "r5;", "w1;l1,1;", "b9,1,0,0;x", "b9,1,0,0", "b0,1,0,0;", "x", "b9,1,0,0;r10;"}) {
            Supplier<BirdBridge> night = () -> richNight(text);
            the.refused("lay of '" + text + "'", NO, night, BirdBridge::lay);
        }
    }

    private static void layAnew() {
        the.says("5: LAID: how many BIRDS");
        for (int birds = 1; birds <= 8; birds++) {
            the.due("lay", Sentences.told(Sentences.many("b9,1,0,0;", birds)).lay(), birds);
        }
        the.says("no BRIDGE, minute 0, YEAR 0, nothing SEEN, UNDONE, KEPT; THE TEXT stays.");
        BirdBridge x = richNight("b30,3,0,1;r2;");
        the.due("lay while she is on it", x.lay(), 1);
        the.row("count", x::count, 0, 1, 0, 0, 2, 0, 0, 0, 0, 0, 0, 13);
        the.due("undo", x.undo(), NO);
        the.due("back", x.back(), NO);
        the.due("forget", x.forget(), 0);
        the.due("she is on the left bank", x.stand(), NO);
        the.due("untired", x.bird(0, 4), 0);
        the.due("the bird that was", x.bird(1, 0), BAD);
        the.due("join", x.join(0), 1);
        the.due("place 0 first", x.step(), 0);
        the.due("THE TEXT laid again", x.lay(), 1);
        the.due("untired", x.bird(0, 4), 0);
        BirdBridge broken = Sentences.walked(Sentences.laid("b1,1,0,0;r1;", 0), 1);
        the.due("lay when BROKEN", broken.lay(), 1);
        the.due("BROKEN no more", broken.count(6), 0);
        the.due("join", broken.join(0), 1);
    }

    private static void birdOfTheFlock() {
        the.says("6: Of a BIRD: ... BAD. (BIRDS: such as there are)");
        Supplier<BirdBridge> three = () -> Sentences.laid("b60,3,4,40;b1,1,1,0;b40,2,2,7;r4;l20,0;", 1, 0);
        the.refused("bird -1", BAD, three, x -> x.bird(-1, 0));
        the.refused("bird 3", BAD, three, x -> x.bird(3, 0));
        the.refused("what -1", BAD, three, x -> x.bird(0, -1));
        the.refused("what 6", BAD, three, x -> x.bird(0, 6));
        for (int n : Sentences.FAR) {
            the.due("bird " + n, three.get().bird(n, 0), BAD);
            the.due("what " + n, three.get().bird(0, n), BAD);
        }
        BirdBridge eight = Sentences.laid(Sentences.many("b7,1,0,0;", 8));
        the.due("bird 7 of 8", eight.bird(7, 0), 7);
        the.due("bird 8 of 8", eight.bird(8, 0), BAD);
        the.says("which of THE BRIDGE it is (5; NONE)");
        the.looks("the first", 0, three, x -> x.bird(1, 5));
        the.looks("the last", 1, three, x -> x.bird(0, 5));
        the.looks("not in it", NONE, three, x -> x.bird(2, 5));
        BirdBridge left = three.get();
        left.leave();
        the.due("it has left", left.bird(0, 5), NONE);
        the.says("how tired it is (4)");
        BirdBridge tired = Sentences.walked(Sentences.laid("b60,1,0,0;b60,1,0,0;b9,1,0,0;r2;l16,0;", 0, 1), 3);
        the.row("tired", b -> tired.bird(b, 4), -1, BAD, 3, 3, 0, BAD);
        tired.leave();
        the.due("tired, though not in it", tired.bird(1, 4), 3);
    }

    private static void windOfAMinute() {
        the.says("7: WIND of a minute (0 to 99). BAD.");
        BirdBridge x = Sentences.laid("b9,1,0,0;w1;w2;w3;w4;w5;w6;w7;w20;");
        the.row("wind", x::wind, -1, BAD, 1);
        the.row("wind", x::wind, 98, 3, 4, BAD);
        for (int t : Sentences.FAR) {
            the.due("wind " + t, x.wind(t), BAD);
        }
        the.says("8 at most, then again from the first on");
        the.row("the eighth, then the first", x::wind, 6, 7, 20, 1, 2);
        the.row("again", x::wind, 14, 7, 20, 1);
        BirdBridge one = Sentences.laid("b9,1,0,0;w13;");
        the.row("one wind", one::wind, 0, 13, 13, 13);
        the.due("one wind", one.wind(99), 13);
        BirdBridge fewer = Sentences.laid("b9,1,0,0;w1;w2;w3;");
        Sentences.tell(fewer, "b9,1,0,0;w8;w9;");
        fewer.lay();
        the.row("fewer winds than before", fewer::wind, 0, 8, 9, 8, 9);
        BirdBridge bridge = Sentences.laid("b60,1,0,0;r1;w0;w8;l8,0;", 0);
        bridge.step();
        the.due("tired in the first wind", bridge.bird(0, 4), 1);
        bridge.stand();
        the.due("tired in the second wind", bridge.bird(0, 4), 3);
        bridge.stand();
        the.due("tired in the first wind again", bridge.bird(0, 4), 4);
    }

    private static void lastCallThatIsTold() {
        the.says("An object is used for at most 512 calls after it has been made");
        BirdBridge x = new BirdBridge();
        the.due("call 1", x.join(1), 1);
        for (int call = 2; call < 512; call++) {
            the.due("call " + call, x.year(call % 21), 12 + call % 21);
        }
        the.due("call 512", x.undo(), 7);
    }
}
