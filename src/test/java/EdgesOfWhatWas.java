import java.math.BigInteger;
import java.util.function.Supplier;

/** What was: promises 21 to 28. */
public final class EdgesOfWhatWas {
    private static final int BAD = Sentences.BAD, NO = Sentences.NO, FULL = Sentences.FULL, NONE = Sentences.NONE;
    private static final Sentences the = new Sentences();

    public static void main(String[] args) {
        seenNumbers();
        sixAtMost();
        forgetting();
        stoodNumbers();
        stoodNothingSeen();
        stoodAsItIsThen();
        stoodMinutes();
        rain();
        centuryNumbers();
        centuryDraws();
        centuryYears();
        keeping();
        backRefused();
        backToAll();
        counts();
        the.end();
    }

    private static final String TWO = "b60,1,0,0;b60,1,0,0;b60,2,0,0;r2;l16,0;";

    private static Supplier<BirdBridge> sixSeen() {
        return () -> {
            BirdBridge x = Sentences.laid(TWO, 0, 1);
            for (int i = 1; i <= 6; i++) {
                the.due("the " + i + "th", x.seen(i % 2, 2 - i % 2), i);
            }
            return x;
        };
    }

    private static void seenNumbers() {
        the.says("21: SEEN: how many. BAD (there is no such k-th now, too)");
        Supplier<BirdBridge> two = Sentences.night(TWO, 0, 1);
        the.refused("k -1", BAD, two, x -> x.seen(-1, 0));
        the.refused("k 2 of 2", BAD, two, x -> x.seen(2, 0));
        the.refused("k 0 of none", BAD, Sentences.night(TWO), x -> x.seen(0, 0));
        the.refused("k 1 of one", BAD, Sentences.night(TWO, 2), x -> x.seen(1, 0));
        BirdBridge left = two.get();
        left.leave();
        the.due("the one that has left", left.seen(1, 0), BAD);
        the.due("the one that is left", left.seen(0, 0), 1);
        the.says("is tired by h (0 to 99) behind a night");
        the.refused("h -1", BAD, two, x -> x.seen(0, -1));
        the.refused("h 100", BAD, two, x -> x.seen(0, 100));
        the.due("h 0", two.get().seen(0, 0), 1);
        the.due("h 99", two.get().seen(1, 99), 1);
        for (int n : Sentences.FAR) {
            the.due("k " + n, two.get().seen(n, 0), BAD);
            the.due("h " + n, two.get().seen(0, n), BAD);
        }
        the.says("SEEN (whenever it is)");
        the.due("she is on it", Sentences.walk(1, TWO, 0, 1).get().seen(1, 1), 1);
        the.due("she is over", Sentences.walk(3, TWO, 0, 1).get().seen(1, 1), 1);
        the.due("BROKEN", Sentences.walk(1, "b1,1,0,0;r1;", 0).get().seen(0, 0), 1);
        the.due("not WHOLE", Sentences.night(TWO, 0).get().seen(0, 0), 1);
    }

    private static void sixAtMost() {
        the.says("SEEN (6 at most)");
        the.refused("a seventh", FULL, sixSeen(), x -> x.seen(0, 1));
        BirdBridge other = sixSeen().get();
        the.due("a seventh that is not so", other.seen(0, 50), FULL);
        the.due("how many", other.count(7), 6);
        the.due("it counts nothing", other.stood(1), 1);
        the.says("Of several the first in this order (seen: BAD, FULL)");
        the.refused("k 2 of 2", BAD, sixSeen(), x -> x.seen(2, 0));
        the.refused("h 100", BAD, sixSeen(), x -> x.seen(0, 100));
    }

    private static void forgetting() {
        the.says("22: Nothing is SEEN: how many were.");
        the.looks("nothing", 0, Sentences.night(TWO, 0, 1), BirdBridge::forget);
        BirdBridge x = sixSeen().get();
        the.due("six", x.forget(), 6);
        the.due("again", x.forget(), 0);
        the.due("how many", x.count(7), 0);
        the.due("all places again", x.stood(1), 3);
        the.due("room again", x.seen(0, 0), 1);
        the.due("all else stays", x.count(1), 2);
    }

    private static void stoodNumbers() {
        the.says("she at one of them for m (1 to 20) minutes");
        Supplier<BirdBridge> two = Sentences.night(TWO, 0, 1);
        the.refused("m 0", BAD, two, x -> x.stood(0));
        the.refused("m 21", BAD, two, x -> x.stood(21));
        the.refused("m -1", BAD, two, x -> x.stood(-1));
        for (int m : Sentences.FAR) {
            the.due("m " + m, two.get().stood(m), BAD);
        }
        the.looks("m 1", 3, two, x -> x.stood(1));
        the.looks("m 20", 3, two, x -> x.stood(20));
        the.says("23: NO: THE BRIDGE is not WHOLE.");
        the.refused("no bridge", NO, Sentences.night(TWO), x -> x.stood(1));
        the.refused("not WHOLE", NO, Sentences.night(TWO, 0), x -> x.stood(1));
        the.looks("BROKEN", 1, Sentences.walk(1, "b1,1,0,0;r1;", 0), x -> x.stood(1));
        the.says("Of several the first in this order (stood: BAD; NO)");
        the.refused("m 0, not WHOLE", BAD, Sentences.night(TWO, 0), x -> x.stood(0));
        the.refused("m 21, no bridge", BAD, Sentences.night(TWO), x -> x.stood(21));
    }

    private static void stoodNothingSeen() {
        the.says("the places (bits) such that ... all that is SEEN would be so (nothing is: all places)");
        the.due("W 1", Sentences.night("b60,3,0,0;r1;", 0).get().stood(1), 1);
        the.due("W 9", Sentences.night(Sentences.many("b60,3,0,0;", 3) + "r9;", 0, 1, 2).get().stood(1), 511);
        the.due("W 4 under 6", Sentences.night(Sentences.many("b60,3,0,0;", 2) + "r4;", 0, 1).get().stood(1), 15);
        the.says("the places (bits) such that ... all that is SEEN would be so (no place: 0)");
        BirdBridge x = Sentences.laid(TWO, 0, 1);
        x.seen(0, 2);
        the.due("the first tired by 2", x.stood(1), 1);
        x.seen(0, 1);
        the.due("and by 1", x.stood(1), 0);
        BirdBridge last = Sentences.laid(Sentences.many("b60,1,0,0;", 8) + "r8;l8,0;", 0, 1, 2, 3, 4, 5, 6, 7);
        last.seen(7, 1);
        the.due("the last place alone", last.stood(1), 128);
    }

    private static void stoodAsItIsThen() {
        the.says("the k-th of THE BRIDGE (as it is when STOOD is asked; it is not so, if there is none then)");
        BirdBridge x = Sentences.laid(TWO, 0, 1);
        x.seen(1, 1);
        the.due("the second tired by 1: she at place 0", x.stood(1), 1);
        x.leave();
        x.leave();
        x.join(2);
        the.due("there is no second then", x.stood(1), 0);
        the.due("still SEEN", x.count(7), 1);
        x.leave();
        x.join(1);
        x.join(0);
        the.due("there is one again", x.stood(1), 1);
        BirdBridge untired = Sentences.laid("b60,1,0,0;b60,1,0,0;b60,2,0,0;r2;l1,0;", 0, 1);
        untired.seen(1, 0);
        the.due("the second tired by 0", untired.stood(1), 3);
        untired.leave();
        untired.leave();
        untired.join(2);
        the.due("no second is not one tired by 0", untired.stood(1), 0);
        BirdBridge other = Sentences.laid("b60,1,0,0;b60,1,2,0;r1;l8,0;", 0);
        other.seen(0, 1);
        the.due("a magpie tired by 1", other.stood(1), 1);
        other.leave();
        other.join(1);
        the.due("a fledgling is tired by 2", other.stood(1), 0);
        the.says("SEEN is neither UNDONE nor KEPT");
        BirdBridge kept = Sentences.laid(TWO, 0, 1);
        kept.keep();
        kept.seen(0, 2);
        kept.undo();
        the.due("behind undo", kept.count(7), 1);
        kept.back();
        the.due("behind back", kept.count(7), 1);
        the.due("so it is told", kept.stood(1), 1);
    }

    private static void stoodMinutes() {
        the.says("all being untired, she at one of them for m minutes from minute 0 on");
        Supplier<BirdBridge> windy = () -> {
            BirdBridge x = Sentences.laid("b60,1,0,0;b60,1,0,0;b60,1,0,0;r3;w0;w8;l8,0;", 0, 1, 2);
            x.seen(0, 3);
            return x;
        };
        the.due("1 and 2 in minutes 0 and 1: place 0", windy.get().stood(2), 1);
        the.due("no 3 in minute 0", windy.get().stood(1), 0);
        // place 1: 0 and 1, six times; place 2: nothing ever
        the.due("place 1 for 6", windy.get().stood(6), 2);
        BirdBridge walked = Sentences.walked(windy.get(), 1);
        the.due("untired and from minute 0 on, though she is on it", walked.stood(2), 1);
        walked.step();
        walked.step();
        walked.step();
        the.due("though she is over", walked.stood(2), 1);
        the.says("each of which tires all (whether THE BRIDGE would BREAK or not)");
        BirdBridge weak = Sentences.laid("b1,1,0,0;b1,1,2,0;r2;l40,0;", 0, 1);
        weak.seen(0, 10);
        weak.seen(1, 8);
        the.due("40 on 1, for 2", weak.stood(2), 1);
        BirdBridge most = Sentences.laid("b1,1,0,0;r1;l40,5;", 0);
        most.year(10);
        most.seen(0, 99);
        the.due("90 for 9 minutes", most.stood(9), 1);
        the.due("90 for 10 minutes", most.stood(10), 0);
        BirdBridge all = Sentences.laid("b60,1,0,0;r1;l39,0;", 0);
        all.seen(0, 80);
        the.due("4 for 20 minutes", all.stood(20), 1);
        the.due("4 for 19 minutes", all.stood(19), 0);
    }

    private static void rain() {
        the.says("24: RAIN. BAD. (x (0 to 10) of ten)");
        Supplier<BirdBridge> any = Sentences.night(TWO, 0);
        the.refused("x -1", BAD, any, x -> x.rain(-1));
        the.refused("x 11", BAD, any, x -> x.rain(11));
        for (int n : Sentences.FAR) {
            the.due("x " + n, any.get().rain(n), BAD);
        }
        the.looks("x 0", 1000000, any, x -> x.rain(0));
        the.looks("x 10", 0, any, x -> x.rain(10));
        the.says("the chance that there is none in the W minutes in which she is on THE BRIDGE, of a million, cut");
        for (int places = 1; places <= 9; places++) {
            BirdBridge x = Sentences.laid("b9,1,0,0;r" + places + ";");
            for (int tenths = 0; tenths <= 10; tenths++) {
                BigInteger chance = BigInteger.valueOf(10 - tenths).pow(places).multiply(BigInteger.valueOf(1000000));
                the.due("W " + places + ", x " + tenths, x.rain(tenths), chance.divide(BigInteger.TEN.pow(places)).intValueExact());
            }
        }
        the.due("W 7, x 3: 82354.3", Sentences.night("b9,1,0,0;r7;").get().rain(3), 82354);
        the.due("W 6, x 9: 1", Sentences.night("b9,1,0,0;r6;").get().rain(9), 1);
        the.due("W 7, x 9: 0.1", Sentences.night("b9,1,0,0;r7;").get().rain(9), 0);
        the.due("without a bridge", Sentences.night("b9,1,0,0;r1;").get().rain(5), 500000);
        the.due("BROKEN", Sentences.walk(1, "b1,1,0,0;r1;", 0).get().rain(5), 500000);
    }

    private static void centuryNumbers() {
        the.says("25: A CENTURY. BAD (z (0 to 9999), n (1 to 90), what 0 and 1)");
        Supplier<BirdBridge> whole = Sentences.night(TWO, 0, 1);
        the.refused("z -1", BAD, whole, x -> x.century(-1, 1, 0));
        the.refused("z 10000", BAD, whole, x -> x.century(10000, 1, 0));
        the.refused("n 0", BAD, whole, x -> x.century(0, 0, 0));
        the.refused("n 91", BAD, whole, x -> x.century(0, 91, 0));
        the.refused("what -1", BAD, whole, x -> x.century(0, 1, -1));
        the.refused("what 2", BAD, whole, x -> x.century(0, 1, 2));
        for (int n : Sentences.FAR) {
            the.due("z " + n, whole.get().century(n == 1000 ? 1000000 : n, 1, 0), BAD);
            the.due("n " + n, whole.get().century(0, n, 0), BAD);
            the.due("what " + n, whole.get().century(0, 1, n), BAD);
        }
        String strong = "b60,1,0,0;r1;l40,0;";
        the.looks("the least", 1, Sentences.night(strong, 0), x -> x.century(0, 1, 0));
        the.looks("the most", 90, Sentences.night(strong, 0), x -> x.century(9999, 90, 0));
        the.says("25: NO (NO: not WHOLE)");
        the.refused("no bridge", NO, Sentences.night(TWO), x -> x.century(0, 1, 0));
        the.refused("not WHOLE", NO, Sentences.night(TWO, 0), x -> x.century(9999, 90, 1));
        the.looks("BROKEN", 0, Sentences.walk(1, "b1,1,0,0;r1;", 0), x -> x.century(0, 1, 0));
        the.says("Of several the first in this order (century: BAD; NO)");
        the.refused("z -1, not WHOLE", BAD, Sentences.night(TWO, 0), x -> x.century(-1, 1, 0));
        the.refused("n 91, not WHOLE", BAD, Sentences.night(TWO, 0), x -> x.century(0, 91, 0));
        the.refused("what 2, no bridge", BAD, Sentences.night(TWO), x -> x.century(0, 1, 2));
        the.says("the first (1; NONE)");
        the.looks("none", NONE, Sentences.night(strong, 0), x -> x.century(9999, 90, 1));
        the.looks("the first of all", 0, Sentences.night("b1,1,0,0;r1;l40,0;", 0), x -> x.century(9999, 90, 1));
    }

    private static int drawn(int z, int y, int k) {
        BigInteger x = BigInteger.valueOf(7919).multiply(BigInteger.valueOf(z)).add(BigInteger.valueOf(6151L * y + 331L * k + 1));
        return x.multiply(x).mod(BigInteger.valueOf(65521)).intValueExact() / 8 % 21;
    }

    private static void centuryDraws() {
        the.says("WIND of minute k (0 first) of YEAR y being DRAW modulo 21");
        for (int z : new int[] {0, 1, 77, 5000, 9998, 9999}) {
            for (int strength = 12; strength <= 33; strength += 3) {
                BirdBridge narrow = Sentences.laid("b" + strength + ",3,0,0;r1;w20;l12,0;", 0);
                for (int n : new int[] {1, 2, 89, 90}) {
                    int over = 0;
                    int first = NONE;
                    for (int y = 0; y < n; y++) {
                        boolean holds = 12 + drawn(z, y, 0) <= strength;
                        over += holds ? 1 : 0;
                        first = !holds && first == NONE ? y : first;
                    }
                    the.due("how many of z " + z + ", n " + n + ", on " + strength, narrow.century(z, n, 0), over);
                    the.due("the first of z " + z + ", n " + n + ", on " + strength, narrow.century(z, n, 1), first);
                }
            }
            BirdBridge broad = Sentences.laid("b60,3,0,0;b60,3,0,0;b60,2,0,0;b26,1,0,0;r9;l12,0;", 0, 1, 2, 3);
            int holds = 0;
            for (int y = 0; y < 90; y++) {
                int left = 26;
                for (int k = 3; k < 8; k++) {
                    left -= (12 + drawn(z, y, k)) / (k < 6 ? 4 : 2) / 8;
                }
                holds += 12 + drawn(z, y, 8) <= left ? 1 : 0;
            }
            the.due("the wind of minute 8, z " + z, broad.century(z, 90, 0), holds);
        }
    }

    private static void centuryYears() {
        the.says("in each of n (1 to 90) YEARS, from YEAR 0 on, she steps over THE BRIDGE, untired");
        BirdBridge heavier = Sentences.laid("b60,1,0,0;r1;l1,9;", 0);
        int over = 0;
        for (int y = 0; y < 90; y++) {
            over += 1 + 9 * y + drawn(3, y, 0) <= 60 ? 1 : 0;
        }
        the.due("ever heavier", heavier.century(3, 90, 0), over);
        heavier.year(20);
        the.due("whatever YEAR it is", heavier.century(3, 90, 0), over);
        the.due("and it stays", heavier.count(5), 20);
        String text = "b32,1,0,0;r1;w20;l12,0;";
        the.due("untired each YEAR", Sentences.night(text, 0).get().century(0, 90, 0), 90);
        the.looks("untired, when she is on it", 90, Sentences.walk(1, text, 0), x -> x.century(0, 90, 0));
        the.looks("untired, when she is over", 90, Sentences.walk(2, text, 0), x -> x.century(0, 90, 0));
    }

    private static void keeping() {
        the.says("26: KEPT: how many. FULL. (2 at most)");
        Supplier<BirdBridge> twice = () -> {
            BirdBridge x = Sentences.laid(TWO, 0);
            the.due("the first", x.keep(), 1);
            x.join(1);
            the.due("the second", x.keep(), 2);
            x.step();
            return x;
        };
        the.refused("a third", FULL, twice, BirdBridge::keep);
        BirdBridge again = twice.get();
        again.keep();
        the.due("how many", again.count(9), 2);
        again.back();
        the.due("room again", again.keep(), 2);
        the.due("keep when BROKEN", Sentences.walk(1, "b1,1,0,0;r1;", 0).get().keep(), 1);
        the.due("keep without a bridge", Sentences.night(TWO).get().keep(), 1);
        BirdBridge undone = twice.get();
        the.due("what was can still be undone", undone.count(8), 3);
        undone.undo();
        the.due("KEPT still", undone.count(9), 2);
    }

    private static void backRefused() {
        the.says("27: As KEPT last (it is KEPT no more then): how many are left");
        the.refused("nothing KEPT", NO, Sentences.walk(1, TWO, 0, 1), BirdBridge::back);
        BirdBridge x = Sentences.laid(TWO, 0);
        x.keep();
        x.join(1);
        x.keep();
        x.step();
        the.due("the latest first", x.back(), 1);
        the.due("two in THE BRIDGE", x.count(1), 2);
        the.due("she is on the left bank", x.stand(), NO);
        the.due("then the other", x.back(), 0);
        the.due("one in THE BRIDGE", x.count(1), 1);
        the.due("nothing KEPT any more", x.back(), NO);
        the.due("one in THE BRIDGE", x.count(1), 1);
        the.says("27: nothing is UNDONE then");
        BirdBridge undone = Sentences.laid(TWO, 0, 1);
        undone.keep();
        undone.step();
        undone.back();
        the.due("how many can be", undone.count(8), 0);
        the.due("undo", undone.undo(), NO);
        the.due("the bridge stays", undone.count(1), 2);
        undone.step();
        the.due("what comes behind can be", undone.undo(), 0);
    }

    private static void backToAll() {
        the.says("KEPT are THE BRIDGE, the minute, the YEAR, where she is, how tired all are, whether it is BROKEN");
        BirdBridge x = Sentences.laid("b60,1,0,0;b60,1,0,0;b1,2,0,0;r2;l16,1;", 1, 0);
        x.year(7);
        x.step();
        x.stand();
        x.keep();
        x.step();
        x.step();
        x.leave();
        x.leave();
        x.join(2);
        x.year(3);
        the.due("back", x.back(), 0);
        the.row("minute, year, broken", x::count, 4, 2, 7, 0);
        the.due("the first", x.span(0, 0), 1);
        the.due("the second", x.span(1, 0), 0);
        the.row("tired", b -> x.bird(b, 4), 0, 2, 4, 0);
        the.due("where she is", x.stand(), 0);
        BirdBridge broken = Sentences.walk(1, "b1,1,0,0;b60,1,0,0;r1;", 0).get();
        broken.keep();
        broken.undo();
        broken.leave();
        broken.join(1);
        broken.step();
        the.due("it holds", broken.count(6), 0);
        broken.back();
        the.due("BROKEN", broken.count(6), 1);
        the.due("nothing goes on", broken.step(), NO);
        the.due("the minute", broken.count(4), 1);
        BirdBridge over = Sentences.walk(2, "b60,1,0,0;r1;l8,0;", 0).get();
        over.keep();
        over.undo();
        over.undo();
        the.due("back to the right bank", over.back(), 0);
        the.due("she is over", over.step(), NO);
        the.due("tired", over.bird(0, 4), 1);
    }

    private static void counts() {
        the.says("28: How many: ... BAD.");
        Supplier<BirdBridge> any = () -> {
            BirdBridge x = Sentences.laid("b60,1,0,0;b60,3,0,0;b9,1,0,0;r2;l9,1;", 0, 1);
            x.year(3);
            x.keep();
            x.seen(0, 1);
            x.seen(1, 1);
            x.step();
            x.step();
            return x;
        };
        the.refused("count -1", BAD, any, x -> x.count(-1));
        the.refused("count 11", BAD, any, x -> x.count(11));
        for (int what : Sentences.FAR) {
            the.due("count " + what, any.get().count(what), BAD);
        }
        the.row("count", what -> any.get().count(what), -1, BAD, 3, 2, 2, 2, 2, 3, 0, 2, 5, 1, 37, BAD);
        the.says("6 1 if BROKEN");
        the.due("it holds", Sentences.walk(1, "b60,1,0,0;r1;", 0).get().count(6), 0);
        the.due("BROKEN", Sentences.walk(1, "b1,1,0,0;r1;", 0).get().count(6), 1);
    }
}
