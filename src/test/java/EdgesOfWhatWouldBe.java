import java.util.function.Supplier;

/** What would be: promises 15 to 20. */
public final class EdgesOfWhatWouldBe {
    private static final int BAD = Sentences.BAD, NO = Sentences.NO, NONE = Sentences.NONE;
    private static final Sentences the = new Sentences();

    public static void main(String[] args) {
        overRefused();
        overNone();
        overFromNowOn();
        fewestNumbers();
        fewestNone();
        fewestFirst();
        fewestByTheRules();
        fewestUntired();
        mendRefused();
        mendWhom();
        mendFromTheLeftBank();
        callsNumbers();
        callsOrder();
        secondRefused();
        secondLeast();
        secondWind();
        secondParts();
        secondLatest();
        yearsRefused();
        yearsFirst();
        the.end();
    }

    private static void overRefused() {
        the.says("15: OVER: the minute (what = 0), the place (1). BAD");
        Supplier<BirdBridge> whole = Sentences.night("b60,1,0,0;r1;", 0);
        the.refused("over -1", BAD, whole, x -> x.over(-1));
        the.refused("over 2", BAD, whole, x -> x.over(2));
        for (int what : Sentences.FAR) {
            the.due("over " + what, whole.get().over(what), BAD);
        }
        the.says("15: NO (not WHOLE, BROKEN)");
        String text = "b60,1,0,0;b60,1,0,0;r2;l8,0;";
        for (int asked = 0; asked <= 1; asked++) {
            int what = asked;
            the.refused("no bridge", NO, Sentences.night(text), x -> x.over(what));
            the.refused("not WHOLE", NO, Sentences.night(text, 1), x -> x.over(what));
            the.refused("BROKEN", NO, Sentences.walk(1, "b1,1,0,0;r1;", 0), x -> x.over(what));
            the.refused("BROKEN at the last place", NO, Sentences.walk(2, "b30,1,0,0;b9,1,0,0;r2;l12,0;", 0, 1), x -> x.over(what));
        }
        the.says("Of several the first in this order (over: BAD, NO, NONE)");
        the.refused("BAD ahead of NO: not WHOLE", BAD, Sentences.night(text), x -> x.over(2));
        the.refused("BAD ahead of NO: BROKEN", BAD, Sentences.walk(1, "b1,1,0,0;r1;", 0), x -> x.over(-1));
        the.refused("BAD ahead of NONE", BAD, Sentences.walk(3, text, 0, 1), x -> x.over(2));
        BirdBridge over = Sentences.walked(Sentences.laid(text, 0, 1), 3);
        over.leave();
        the.due("NO ahead of NONE: she is over, not WHOLE", over.over(0), NO);
        the.due("NO ahead of NONE: she is over, not WHOLE", over.over(1), NO);
    }

    private static void overNone() {
        the.says("15: NONE (she is over, too)");
        String text = "b60,1,0,0;b60,1,0,0;r2;w20;l8,0;";
        for (int steps = 0; steps <= 3; steps++) {
            the.looks("minute, " + steps + " steps on", NONE, Sentences.walk(steps, text, 0, 1), x -> x.over(0));
            the.looks("place, " + steps + " steps on", NONE, Sentences.walk(steps, text, 0, 1), x -> x.over(1));
        }
        the.due("at the last place no wind breaks it", Sentences.walk(1, "b12,1,0,0;r1;w0;w20;l12,0;", 0).get().over(0), NONE);
        String bank = "b12,3,0,0;b12,3,0,0;r1;w0;w20;l12,0;";
        the.due("nor when the last one spans the bank too", Sentences.night(bank, 0).get().over(0), NONE);
        the.due("MEND", Sentences.night(bank, 0).get().mend(0), 1);
        the.due("YEARS", Sentences.night(bank, 0).get().years(), NONE);
        the.due("FEWEST", Sentences.night(bank, 0).get().fewest(-1), 1);
        BirdBridge weak = Sentences.walked(Sentences.laid("b60,1,0,0;b1,1,0,0;r1;l8,0;", 0), 2);
        weak.leave();
        weak.join(1);
        the.due("she is over, on a bridge that would break", weak.over(0), NONE);
    }

    private static void overFromNowOn() {
        the.says("OVER: she goes STEP by STEP from now on: the minute in which it BREAKS; at which place she is then");
        String text = "b60,1,0,0;b60,1,0,0;b13,1,0,0;r3;w0;w0;w2;l12,0;";
        the.looks("minute", 2, Sentences.night(text, 0, 1, 2), x -> x.over(0));
        the.looks("place", 2, Sentences.night(text, 0, 1, 2), x -> x.over(1));
        the.looks("minute, from place 0 on", 2, Sentences.walk(1, text, 0, 1, 2), x -> x.over(0));
        the.looks("place, from place 1 on", 2, Sentences.walk(2, text, 0, 1, 2), x -> x.over(1));
        BirdBridge late = Sentences.walked(Sentences.laid(text, 0, 1, 2), 1);
        late.stand();
        the.due("another wind at the last place", late.over(0), NONE);
        late.stand();
        late.stand();
        the.due("the minute when the winds begin again", late.over(0), 5);
        the.due("the place", late.over(1), 2);
        the.looks("in the first minute", 0, Sentences.night("b1,1,0,0;r1;", 0), x -> x.over(0));
        the.looks("at the first place", 0, Sentences.night("b1,1,0,0;r1;", 0), x -> x.over(1));
        BirdBridge broad = Sentences.laid("b60,3,0,0;b60,3,0,0;b60,2,0,0;b21,1,0,0;r9;l20,1;", 0, 1, 2, 3);
        // the last one bears 5, 5, 5, then 10 and 10: tired by 2; 20 on 19 in minute 8
        the.due("the last minute", broad.over(0), 8);
        the.due("the last place", broad.over(1), 8);
    }

    private static void fewestNumbers() {
        the.says("16: FEWEST: how many (k = -1), who is the k-th (0 to 7). BAD");
        Supplier<BirdBridge> any = Sentences.night("b60,1,0,0;b60,1,0,0;r2;l8,0;", 1);
        the.refused("fewest -2", BAD, any, x -> x.fewest(-2));
        the.refused("fewest 8", BAD, any, x -> x.fewest(8));
        for (int k : Sentences.FAR) {
            the.due("fewest " + k, any.get().fewest(k), BAD);
        }
        the.looks("how many", 2, any, x -> x.fewest(-1));
        the.says("16: NONE (it is not so long, too)");
        the.row("of two", k -> any.get().fewest(k), -2, BAD, 2, 0, 1, NONE, NONE, NONE, NONE, NONE, NONE, BAD);
        BirdBridge eight = Sentences.laid(Sentences.many("b60,1,0,0;", 8) + "r8;l8,0;");
        the.row("of eight", eight::fewest, -2, BAD, 8, 0, 1, 2, 3, 4, 5, 6, 7, BAD);
        BirdBridge one = Sentences.laid("b9,1,0,0;b60,3,0,0;r1;");
        the.row("of one", one::fewest, -1, 1, 1, NONE);
    }

    private static void fewestNone() {
        the.says("FEWEST: ... none");
        the.looks("nobody is strong enough", NONE, Sentences.night("b11,1,0,0;r1;l12,0;"), x -> x.fewest(-1));
        the.looks("nobody is strong enough", NONE, Sentences.night("b11,1,0,0;r1;l12,0;"), x -> x.fewest(0));
        the.due("just strong enough", Sentences.night("b12,1,0,0;r1;l12,0;").get().fewest(-1), 1);
        the.due("all span W less 1", Sentences.night(Sentences.many("b60,1,0,0;", 8) + "r9;l1,0;").get().fewest(-1), NONE);
        the.due("all span W", Sentences.night(Sentences.many("b60,1,0,0;", 8) + "r8;l1,0;").get().fewest(-1), 8);
        the.says("Of several the first in this order (fewest: BAD, NONE)");
        the.refused("BAD ahead of NONE", BAD, Sentences.night("b11,1,0,0;r1;l12,0;"), x -> x.fewest(8));
        the.refused("BAD ahead of NONE", BAD, Sentences.night("b11,1,0,0;r1;l12,0;"), x -> x.fewest(-2));
    }

    private static void fewestFirst() {
        the.says("those of fewest BIRDS, of several the first (by who is first, then second, ..)");
        BirdBridge x = Sentences.laid("b60,1,0,0;b60,1,0,0;b60,1,0,0;b60,2,0,0;b60,2,0,0;r3;l8,0;");
        the.row("two and not three", x::fewest, -1, 2, 0, 3, NONE);
        BirdBridge wide = Sentences.laid("b60,1,0,0;b60,2,0,0;b60,3,0,0;b60,3,0,0;r3;l8,0;");
        the.row("one, the lowest", wide::fewest, -1, 1, 2, NONE);
        BirdBridge longer = Sentences.laid("b60,2,0,0;b60,2,0,0;b60,3,0,0;r4;l8,0;");
        the.row("one that spans more than W", longer::fewest, -1, 2, 0, 1, NONE);
        BirdBridge weak = Sentences.laid("b10,2,0,0;b60,1,0,0;b60,1,0,0;b60,1,0,0;r2;l12,0;");
        the.row("the wide one is too weak alone", weak::fewest, -1, 2, 1, 2, NONE);
        BirdBridge swap = Sentences.laid("b9,1,0,0;b20,1,0,0;b20,1,0,0;r2;w0;w2;l9,0;");
        the.row("the weak one only at first", swap::fewest, -1, 2, 0, 1, NONE);
        BirdBridge last = Sentences.laid("b10,1,0,0;b20,1,0,0;b20,1,0,0;r2;w2;w0;l9,0;");
        the.row("the weak one only at last", last::fewest, -1, 2, 1, 0, NONE);
        the.says("by which she comes over (BIRDS just strong enough)");
        BirdBridge just = Sentences.laid("b60,1,0,0;b12,1,0,0;r2;w0;w0;w20;l12,0;");
        the.row("12 on 12 at the last place", just::fewest, -1, 2, 0, 1);
        BirdBridge ahead = Sentences.laid("b60,1,0,0;b13,1,0,0;r2;w8;w0;l12,0;");
        the.row("a wind ahead of it", ahead::fewest, -1, 2, 0, 1);
        BirdBridge behind = Sentences.laid("b60,1,0,0;b13,1,0,0;b60,1,0,0;r3;w0;w0;w8;l12,0;");
        the.row("a wind behind it", behind::fewest, -1, 3, 0, 1, 2);
        BirdBridge heavy = Sentences.laid("b60,1,0,0;b42,1,0,0;r2;l40,0;");
        the.row("40 on 40", heavy::fewest, -1, 2, 0, 1);
        BirdBridge crow = Sentences.laid("b60,1,1,0;b60,1,0,0;b26,1,1,0;b60,1,0,0;r4;l12,0;");
        the.row("a crow amid that is tired by nothing ahead: 12 on 13", crow::fewest, -1, 4, 0, 1, 2, 3);
        the.says("of several the first (by who is first, then second, ..)");
        BirdBridge three = Sentences.laid("b20,1,0,0;b60,2,0,0;b60,2,0,0;b20,1,0,0;r5;l8,0;");
        the.row("by who is second", three::fewest, -1, 3, 0, 1, 2, NONE);
    }

    private static void fewestByTheRules() {
        the.says("of all BRIDGES (a PROUD one behind a PROUD one is none)");
        the.due("two proud ones", Sentences.night("b60,1,3,0;b60,1,3,0;r2;l1,0;").get().fewest(-1), NONE);
        BirdBridge proud = Sentences.laid("b60,1,3,0;b60,1,3,0;b60,1,0,0;r3;l1,0;");
        the.row("a magpie between them", proud::fewest, -1, 3, 0, 2, 1);
        the.says("of all BRIDGES (without a CROW as the first one, if there is one, is none)");
        BirdBridge crow = Sentences.laid("b60,2,0,0;b60,1,1,0;r2;l1,0;");
        the.row("a crow first", crow::fewest, -1, 2, 1, 0);
        the.due("a crow too weak", Sentences.night("b60,2,0,0;b1,1,1,0;r2;l9,0;").get().fewest(-1), NONE);
        BirdBridge amid = Sentences.laid("b60,1,1,0;b23,1,1,0;b60,1,0,0;r3;l12,0;");
        // amid, it would be 11 strong: so it stands at the end
        the.row("a weak crow is no middle one", amid::fewest, -1, 3, 0, 2, 1);
        the.says("of all BRIDGES (a PAIRED one that gets another beside it later)");
        BirdBridge paired = Sentences.laid("b15,1,4,0;b15,1,4,0;r2;l18,0;");
        the.row("two that hold together", paired::fewest, -1, 2, 0, 1);
        the.due("two that do not", Sentences.night("b14,1,4,0;b14,1,0,0;r2;l18,0;").get().fewest(-1), NONE);
    }

    private static void fewestUntired() {
        the.says("of all BIRDS untired, from minute 0, she being on the left bank");
        String text = "b13,2,0,0;b60,1,0,0;b60,1,0,0;r2;w0;w0;w20;l12,1;";
        the.due("without a bridge", Sentences.night(text).get().fewest(-1), 1);
        the.due("not WHOLE", Sentences.night(text, 1).get().fewest(-1), 1);
        the.looks("she is on it, it is tired", 1, Sentences.walk(1, text, 0), x -> x.fewest(-1));
        the.looks("she is over", 1, Sentences.walk(3, text, 0), x -> x.fewest(-1));
        BirdBridge broken = Sentences.walk(2, text, 0).get();
        the.due("BREAKS", broken.stand(), NONE);
        the.due("BROKEN", broken.fewest(-1), 1);
        the.says("how heavy she is this YEAR");
        BirdBridge year = Sentences.laid(text);
        the.due("year 0", year.fewest(0), 0);
        year.year(1);
        // alone the first one is tired by 1: 13 on 12; behind another one it is not
        the.row("year 1", year::fewest, -1, 2, 1, 0);
        year.undo();
        the.due("year 0 again", year.fewest(-1), 1);
        Sentences.tell(year, "b60,1,0,0;b13,2,0,0;r2;l12,1;");
        year.lay();
        the.due("laid anew", year.fewest(0), 1);
    }

    private static void mendRefused() {
        the.says("17: MEND. BAD (those of THE BRIDGE: such as there are)");
        String text = "b60,1,0,0;b60,1,0,0;b60,1,0,0;r2;l8,0;";
        Supplier<BirdBridge> whole = Sentences.night(text, 0, 1);
        the.refused("mend -1", BAD, whole, x -> x.mend(-1));
        the.refused("mend 2 of 2", BAD, whole, x -> x.mend(2));
        for (int k : Sentences.FAR) {
            the.due("mend " + k, whole.get().mend(k), BAD);
        }
        the.row("of two", k -> whole.get().mend(k), -1, BAD, 2, 2, BAD);
        the.says("17: NO: not WHOLE (BROKEN or not)");
        the.refused("not WHOLE", NO, Sentences.night(text, 0), x -> x.mend(0));
        the.looks("BROKEN", 1, Sentences.walk(1, "b1,1,0,0;b60,1,0,0;r1;", 0), x -> x.mend(0));
        the.looks("BROKEN, and nobody could", NONE, Sentences.walk(1, "b1,1,0,0;b2,1,0,0;r1;", 0), x -> x.mend(0));
        the.says("Of several the first in this order (mend: BAD; NO)");
        the.refused("no bridge", BAD, Sentences.night(text), x -> x.mend(0));
        the.refused("not WHOLE", BAD, Sentences.night(text, 0), x -> x.mend(1));
    }

    private static void mendWhom() {
        the.says("the lowest BIRD that is not in it and spans as much");
        the.looks("all are in it", NONE, Sentences.night("b60,1,0,0;b60,1,0,0;r2;l8,0;", 0, 1), x -> x.mend(0));
        the.due("none spans as much", Sentences.night("b60,2,0,0;b60,1,0,0;b60,3,0,0;r2;l8,0;", 0).get().mend(0), NONE);
        the.due("the lowest", Sentences.night("b60,3,0,0;b60,1,0,0;b60,2,0,0;b60,2,0,0;b60,2,0,0;r2;l8,0;", 3).get().mend(0), 2);
        the.due("one that is too weak", Sentences.night("b7,1,0,0;b60,1,0,0;b8,1,0,0;r1;l8,0;", 1).get().mend(0), 2);
        the.due("that it holds without", Sentences.night("b60,1,0,0;b60,1,0,0;r1;l8,0;", 0).get().mend(0), 1);
        the.due("another one is too weak", Sentences.night("b60,1,0,0;b1,1,0,0;b60,1,0,0;r2;l8,0;", 0, 1).get().mend(0), NONE);
        the.due("the weak one itself", Sentences.night("b60,1,0,0;b1,1,0,0;b60,1,0,0;r2;l8,0;", 0, 1).get().mend(1), 2);
        the.says("whether it could JOIN there or not");
        BirdBridge crow = Sentences.laid("b60,1,1,0;b60,1,3,0;b60,1,3,0;r2;l8,0;", 0, 1);
        the.due("a proud one first, beside a proud one, and no crow", crow.mend(0), 2);
        the.due("in the proud one's place", crow.mend(1), 2);
        the.says("MEND: POWER by who is beside it then");
        BirdBridge amid = Sentences.laid("b60,1,1,0;b60,1,0,0;b60,1,0,0;b15,1,1,0;b16,1,1,0;r3;l8,0;", 0, 1, 2);
        // amid: 7 and 8; 4 on it tires by 0, then 8
        the.due("a crow amid", amid.mend(1), 4);
        the.due("a crow at the end", amid.mend(2), 3);
        BirdBridge paired = Sentences.laid("b60,1,4,0;b60,1,0,0;b10,1,0,0;b10,1,4,0;r2;l15,0;", 0, 1);
        the.due("a paired one beside a paired one", paired.mend(1), 3);
        the.due("beside no paired one", paired.mend(0), NONE);
    }

    private static void mendFromTheLeftBank() {
        the.says("she on the left bank in the minute that it is, all tired as they are");
        String windy = "b30,1,0,0;b12,1,0,0;b20,1,0,0;r1;w0;w3;w9;l12,0;";
        the.due("in minute 0", Sentences.night(windy, 0).get().mend(0), 1);
        the.looks("in minute 1, she at place 0", 2, Sentences.walk(1, windy, 0), x -> x.mend(0));
        the.looks("in minute 2, she is over", NONE, Sentences.walk(2, windy, 0), x -> x.mend(0));
        BirdBridge round = Sentences.walk(1, windy, 0).get();
        round.stand();
        round.stand();
        the.due("in minute 3, the winds from the first on", round.mend(0), 1);
        BirdBridge tired = Sentences.laid("b20,1,0,0;b30,1,0,0;b17,1,0,0;r1;l16,0;", 2);
        the.due("untired", tired.mend(0), 0);
        tired.step();
        tired.step();
        tired.leave();
        tired.join(0);
        the.due("a tired one is none", tired.mend(0), 1);
        BirdBridge others = Sentences.laid("b17,1,0,0;b60,1,0,0;b60,1,0,0;r2;l16,0;", 0, 1);
        the.due("the first one untired", others.mend(1), 2);
        others.step();
        the.due("the first one tired by 2", others.mend(1), NONE);
    }

    private static void callsNumbers() {
        the.says("18: CALLS: the minute (k = -1), which BIRD (k there is). BAD.");
        Supplier<BirdBridge> two = Sentences.night("b9,1,0,7;b9,1,0,9;b9,1,0,30;r5;", 0, 1);
        the.refused("calls -2", BAD, two, x -> x.calls(-2));
        the.refused("calls 2 of 2", BAD, two, x -> x.calls(2));
        for (int k : Sentences.FAR) {
            the.due("calls " + k, two.get().calls(k), BAD);
        }
        the.looks("the minute", 9, two, x -> x.calls(-1));
        the.row("of two, not WHOLE", k -> two.get().calls(k), -2, BAD, 9, 1, 0, BAD);
        the.says("(0 without BIRDS)");
        the.looks("the minute", 0, Sentences.night("b9,1,0,7;r5;"), x -> x.calls(-1));
        the.refused("which one", BAD, Sentences.night("b9,1,0,7;r5;"), x -> x.calls(0));
        the.says("of THE BRIDGE (WHOLE or not)");
        the.due("WHOLE", Sentences.night("b9,1,0,7;b9,1,0,40;r1;", 0).get().calls(-1), 7);
        the.due("BROKEN", Sentences.walk(1, "b9,1,0,7;b9,1,0,40;r1;", 0).get().calls(-1), 7);
    }

    private static void callsOrder() {
        the.says("one a minute, from minute 0 on, the farthest first, of several the lowest; each is there D minutes behind its call");
        the.due("D 0 in minute 0", Sentences.night("b9,1,0,0;r1;", 0).get().calls(-1), 0);
        the.due("D 40 in minute 40", Sentences.night("b9,1,0,40;r1;", 0).get().calls(-1), 40);
        BirdBridge same = Sentences.laid(Sentences.many("b9,1,0,40;", 8) + "r9;", 7, 0, 6, 1, 5, 2, 4, 3);
        the.row("eight from one wood", same::calls, -2, BAD, 47, 0, 1, 2, 3, 4, 5, 6, 7, BAD);
        BirdBridge near = Sentences.laid(Sentences.many("b9,1,0,0;", 8) + "r9;", 7, 0, 6, 1, 5, 2, 4, 3);
        the.due("eight that are there at once", near.calls(-1), 7);
        BirdBridge mixed = Sentences.laid("b9,1,0,0;b9,1,0,40;b9,1,0,5;b9,1,0,40;b9,1,0,6;r9;", 0, 3, 2, 1, 4);
        the.row("mixed", mixed::calls, -1, 41, 1, 3, 4, 2, 0, BAD);
        BirdBridge first = Sentences.laid("b9,1,0,9;b9,1,0,8;b9,1,0,7;r9;", 0, 1, 2);
        the.row("as they joined", first::calls, -1, 9, 0, 1, 2, BAD);
        BirdBridge later = Sentences.laid("b9,1,0,3;b9,1,0,3;b9,1,0,2;b9,1,0,2;r9;", 3, 2, 1, 0);
        the.row("the last called is the last there", later::calls, -1, 5, 0, 1, 2, 3, BAD);
    }

    private static void secondRefused() {
        the.says("another one, h (1 to 40) heavy");
        String text = "b60,1,0,0;b60,1,0,0;r2;l8,0;";
        Supplier<BirdBridge> whole = Sentences.night(text, 0, 1);
        the.refused("second 0", BAD, whole, x -> x.second(0));
        the.refused("second 41", BAD, whole, x -> x.second(41));
        the.refused("second -1", BAD, whole, x -> x.second(-1));
        for (int h : Sentences.FAR) {
            the.due("second " + h, whole.get().second(h), BAD);
        }
        the.looks("second 1", 0, whole, x -> x.second(1));
        the.looks("second 40", 0, whole, x -> x.second(40));
        the.says("19: SECOND. NO (NO: not WHOLE)");
        the.refused("no bridge", NO, Sentences.night(text), x -> x.second(1));
        the.refused("not WHOLE", NO, Sentences.night(text, 0), x -> x.second(40));
        the.looks("BROKEN", NONE, Sentences.walk(1, "b1,1,0,0;r1;", 0), x -> x.second(1));
        the.says("Of several the first in this order (second: BAD; NO)");
        the.refused("not WHOLE", BAD, Sentences.night(text, 0), x -> x.second(0));
        the.refused("not WHOLE", BAD, Sentences.night(text, 0), x -> x.second(41));
    }

    private static void secondLeast() {
        the.says("the least t by which THE BRIDGE, untired, she being at place 0 in minute 0, does not BREAK; none");
        String narrow = "b32,1,0,0;r1;l12,0;";
        the.due("both at the only place: 32 on 32", Sentences.night(narrow, 0).get().second(20), 0);
        the.due("33 on 32, then behind her", Sentences.night(narrow, 0).get().second(21), 1);
        the.due("31 on 31 behind her", Sentences.night(narrow, 0).get().second(31), 1);
        the.due("32 on 31 behind her", Sentences.night(narrow, 0).get().second(32), NONE);
        the.due("she does not come over herself", Sentences.night("b11,1,0,0;r1;l12,0;", 0).get().second(1), NONE);
        the.looks("untired, when she is on it", 1, Sentences.walk(1, narrow, 0), x -> x.second(31));
        the.looks("untired, when she is over", 1, Sentences.walk(2, narrow, 0), x -> x.second(31));
        BirdBridge broken = Sentences.walk(1, narrow, 0).get();
        for (int i = 0; i < 30 && broken.stand() >= 0; i++) {
            the.due("not BROKEN yet", broken.count(6), 0);
        }
        the.due("BROKEN", broken.count(6), 1);
        the.due("untired, when BROKEN", broken.second(31), 1);
        the.says("how heavy she is this YEAR");
        BirdBridge year = Sentences.laid("b32,1,0,0;r1;l12,1;", 0);
        year.year(1);
        the.due("33 on 32", year.second(20), 1);
    }

    private static void secondWind() {
        the.says("LOAD of this one being h, and the WIND as well, if she is not on THE BRIDGE in that minute");
        String once = "b33,1,0,0;r1;w1;l12,0;";
        the.due("both in a wind of 1: 33 on 33", Sentences.night(once, 0).get().second(20), 0);
        the.due("34 on 33, then 22 behind her", Sentences.night(once, 0).get().second(21), 1);
        the.due("behind her: 32 on 32", Sentences.night(once, 0).get().second(31), 1);
        the.due("behind her: 33 on 32", Sentences.night(once, 0).get().second(32), NONE);
        String gap = "b40,1,0,0;r1;w1;w20;w20;w20;w20;w20;w20;w0;l12,0;";
        the.due("a wind that lets both over", Sentences.night(gap, 0).get().second(38), 7);
        BirdBridge early = Sentences.laid("b40,1,0,0;r1;w5;w9;w5;w0;l12,0;", 0);
        the.due("t in the wind of its own minute", early.second(36), 3);
    }

    private static void secondParts() {
        the.says("each BIRD bears its parts of both (each part cut by itself");
        // t 0, the middle one: 7 and 8; then 15 and 17 at once on what is left
        the.due("tired by 15 and no 16", Sentences.night("b60,1,0,0;b33,1,0,0;b60,1,0,0;r3;l15,0;", 0, 1, 2).get().second(17), 0);
        the.due("1 less strong", Sentences.night("b60,1,0,0;b32,1,0,0;b60,1,0,0;r3;l15,0;", 0, 1, 2).get().second(17), 1);
        the.says("it is tired by the sum, by 8, cut");
        // t 0, the first one: 12 and 4 tire by 2; then 6 and 8 on 14, or 6 and 9
        the.due("14 on 14", Sentences.night("b16,1,0,0;b60,1,0,0;r2;l12,0;", 0, 1).get().second(8), 0);
        the.due("15 on 14", Sentences.night("b16,1,0,0;b60,1,0,0;r2;l12,0;", 0, 1).get().second(9), 1);
        the.says("a FLEDGLING by 2 times that (SECOND)");
        // t 0: 12 and 4 tire by 4; then 14
        the.due("14 on 14", Sentences.night("b18,1,2,0;b60,1,0,0;r2;l12,0;", 0, 1).get().second(8), 0);
        the.due("14 on 13", Sentences.night("b17,1,2,0;b60,1,0,0;r2;l12,0;", 0, 1).get().second(8), 1);
        the.says("at place W less 1 in the minute t, then one place a minute");
        // t 0: 8 at place 0, h at place 2; minute 1: both at place 1; minute 2: h at place 0
        String ends = "b20,1,0,0;b60,1,0,0;b40,1,0,0;r3;l8,0;";
        the.due("the first one bears it last", Sentences.night(ends, 0, 1, 2).get().second(15), 0);
        the.due("too heavy for the first one", Sentences.night(ends, 0, 1, 2).get().second(20), NONE);
        String over = "b60,3,0,0;b40,3,0,0;r4;l8,0;";
        the.due("from place W less 1, not from the end of the last one", Sentences.night(over, 0, 1).get().second(32), 0);
    }

    /**
     * From t 9 on she is never met, so that t and t less 8, the eight winds being the same, are alike:
     * 16 is the latest that can be least. This river was looked for by chance.
     */
    private static void secondLatest() {
        the.says("in the minute t (0 to 20)");
        Supplier<BirdBridge> x = Sentences.night("b48,3,0,0;b46,2,0,0;b45,3,0,0;b47,2,0,0;r9;w0;w20;w20;w18;w20;w14;w20;w20;l9,0;", 0, 1, 2, 3);
        the.looks("the latest", 16, x, one -> one.second(11));
        the.looks("no later one", NONE, x, one -> one.second(12));
    }

    private static void yearsRefused() {
        the.says("20: YEARS. NO (NO: not WHOLE)");
        String text = "b60,1,0,0;b60,1,0,0;r2;l8,0;";
        the.refused("no bridge", NO, Sentences.night(text), BirdBridge::years);
        the.refused("not WHOLE", NO, Sentences.night(text, 0), BirdBridge::years);
        the.looks("BROKEN", 0, Sentences.walk(1, "b1,1,0,0;r1;", 0), BirdBridge::years);
    }

    private static void yearsFirst() {
        the.says("the first YEAR (0 to 20) in which she would not come over THE BRIDGE, untired, from minute 0 on; none");
        the.due("year 0", Sentences.night("b11,1,0,0;r1;l12,0;", 0).get().years(), 0);
        the.due("never", Sentences.night("b12,1,0,0;r1;l12,0;", 0).get().years(), NONE);
        the.due("year 1", Sentences.night("b12,1,0,0;r1;l12,1;", 0).get().years(), 1);
        the.due("year 19", Sentences.night("b30,1,0,0;r1;l12,1;", 0).get().years(), 19);
        the.due("year 20", Sentences.night("b31,1,0,0;r1;l12,1;", 0).get().years(), 20);
        the.due("it would be year 21", Sentences.night("b32,1,0,0;r1;l12,1;", 0).get().years(), NONE);
        the.due("60 in year 20", Sentences.night("b60,1,0,0;r1;l40,1;", 0).get().years(), NONE);
        the.due("61 in year 20", Sentences.night("b60,1,0,0;r1;w1;l40,1;", 0).get().years(), 20);
        String text = "b20,1,0,0;r1;w0;w9;l12,2;";
        the.looks("she is on it, it is tired", 5, Sentences.walk(1, text, 0), BirdBridge::years);
        the.looks("she is over", 5, Sentences.walk(2, text, 0), BirdBridge::years);
        BirdBridge late = Sentences.laid(text, 0);
        late.year(9);
        the.due("from YEAR 0 on, whatever YEAR it is", late.years(), 5);
        the.due("and it stays", late.count(5), 9);
    }
}
