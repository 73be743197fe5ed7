import java.util.function.Supplier;

/** THE BRIDGE, what its BIRDS bear, and the minutes in which she walks: promises 8 to 14. */
public final class EdgesOfTheNight {
    private static final int BAD = Sentences.BAD, NO = Sentences.NO, NONE = Sentences.NONE;
    private static final Sentences the = new Sentences();

    public static void main(String[] args) {
        spanOfTheBridge();
        whole();
        joinBad();
        joinTwiceOrWhole();
        proudOnes();
        crowsFirst();
        leaving();
        whileSheIsOnIt();
        whenBroken();
        whatIsBorne();
        bornByTheNextWind();
        crowsAmid();
        pairedOnes();
        tiring();
        stepRefused();
        stepToTheBanks();
        moreThanItsPower();
        breaking();
        standing();
        yearOfHers();
        undoRefused();
        lastEight();
        undoneEach();
        the.end();
    }

    private static void spanOfTheBridge() {
        the.says("8: Of the k-th of THE BRIDGE: ... BAD. (those of THE BRIDGE: such as there are)");
        Supplier<BirdBridge> two = Sentences.night("b60,2,0,0;b60,1,0,0;b60,3,0,0;r9;l8,0;", 1, 0);
        the.refused("k -1", BAD, two, x -> x.span(-1, 0));
        the.refused("k 2 of 2", BAD, two, x -> x.span(2, 0));
        the.refused("what -1", BAD, two, x -> x.span(0, -1));
        the.refused("what 4", BAD, two, x -> x.span(0, 4));
        the.refused("k 0 of none", BAD, Sentences.night("b9,1,0,0;r1;"), x -> x.span(0, 0));
        for (int n : Sentences.FAR) {
            the.due("k " + n, two.get().span(n, 0), BAD);
            the.due("what " + n, two.get().span(0, n), BAD);
        }
        BirdBridge left = two.get();
        left.leave();
        the.due("k 1 when it has left", left.span(1, 0), BAD);
        the.says("the BIRD (what = 0), its first place (1)");
        the.row("the first", what -> two.get().span(0, what), 0, 1, 0, 60, 0);
        the.row("the last", what -> two.get().span(1, what), 0, 0, 1, 60, 0);
        BirdBridge eight = Sentences.laid(Sentences.many("b9,1,0,0;", 8) + "r8;", 7, 6, 5, 4, 3, 2, 1, 0);
        the.due("the eighth", eight.span(7, 0), 0);
        the.due("its place", eight.span(7, 1), 7);
        the.due("behind the eighth", eight.span(8, 0), BAD);
        the.due("the third one's place", Sentences.laid("b9,3,0,0;b9,3,0,0;b9,3,0,0;r9;", 0, 1, 2).span(2, 1), 6);
    }

    private static void whole() {
        the.says("it is WHOLE, if it spans W places or more");
        String text = "b60,1,0,0;b60,2,0,0;b60,3,0,0;r3;l1,0;";
        the.due("W less 1 places: step", Sentences.night(text, 1).get().step(), NO);
        the.due("W less 1 places: another joins", Sentences.night(text, 1).get().join(0), 2);
        the.due("W places: step", Sentences.night(text, 1, 0).get().step(), 0);
        the.due("W places: another joins", Sentences.night(text, 1, 0).get().join(2), NO);
        the.due("W and 2 places: step", Sentences.night(text, 1, 2).get().step(), 0);
        the.due("W and 2 places: another joins", Sentences.night(text, 1, 2).get().join(0), NO);
        the.due("W places by one bird", Sentences.night(text, 2).get().step(), 0);
        BirdBridge narrow = Sentences.laid("b60,3,0,0;b60,1,0,0;r1;l1,0;", 0);
        the.due("a river of 1 under one of 3: join", narrow.join(1), NO);
        the.due("step", narrow.step(), 0);
        the.due("step", narrow.step(), 1);
        BirdBridge never = Sentences.laid(Sentences.many("b60,1,0,0;", 8) + "r9;l1,0;", 0, 1, 2, 3, 4, 5, 6, 7);
        the.due("all BIRDS span 8 of 9 places: step", never.step(), NO);
        the.says("28: 2 places it spans (W at most)");
        the.due("none", Sentences.night(text).get().count(2), 0);
        the.due("W less 1", Sentences.night(text, 1).get().count(2), 2);
        the.due("W", Sentences.night(text, 1, 0).get().count(2), 3);
        the.due("W and 2", Sentences.night(text, 1, 2).get().count(2), 3);
        the.due("8 of 9", never.count(2), 8);
    }

    private static void joinBad() {
        the.says("9: A BIRD JOINS: how many are in THE BRIDGE. BAD");
        Supplier<BirdBridge> two = Sentences.night("b60,2,0,0;b60,1,0,0;r3;l8,0;", 1);
        the.refused("join -1", BAD, two, x -> x.join(-1));
        the.refused("join 2 of 2", BAD, two, x -> x.join(2));
        for (int b : Sentences.FAR) {
            the.due("join " + b, two.get().join(b), BAD);
        }
        the.due("join 8 of 8", Sentences.night(Sentences.many("b9,1,0,0;", 8)).get().join(8), BAD);
        the.due("join 7 of 8", Sentences.night(Sentences.many("b9,1,0,0;", 8)).get().join(7), 1);
        BirdBridge all = Sentences.laid(Sentences.many("b9,1,0,0;", 8) + "r9;");
        the.row("one behind the other", all::join, 0, 1, 2, 3, 4, 5, 6, 7, 8, BAD);
        the.says("Of several the first in this order (join: BAD; NO)");
        the.refused("WHOLE", BAD, Sentences.night("b60,1,0,0;r1;", 0), x -> x.join(1));
        the.refused("she is on it", BAD, Sentences.walk(1, "b60,1,0,0;r1;", 0), x -> x.join(1));
        the.refused("BROKEN", BAD, Sentences.walk(1, "b1,1,0,0;r1;", 0), x -> x.join(-1));
    }

    private static void joinTwiceOrWhole() {
        the.says("a BIRD JOINS at its right end, if it is not in it");
        String text = "b60,1,0,0;b60,1,0,0;b60,1,0,0;r3;l8,0;";
        the.refused("the only one again", NO, Sentences.night(text, 1), x -> x.join(1));
        the.refused("the first one again", NO, Sentences.night(text, 1, 0), x -> x.join(1));
        the.refused("the last one again", NO, Sentences.night(text, 1, 0), x -> x.join(0));
        BirdBridge again = Sentences.laid(text, 1, 0);
        again.leave();
        the.due("one that has left", again.join(0), 2);
        the.says("and if it is not whole yet");
        the.refused("WHOLE", NO, Sentences.night("b60,2,0,0;b60,1,0,0;r2;l8,0;", 0), x -> x.join(1));
        the.refused("WHOLE, she is over", NO, Sentences.walk(3, "b60,2,0,0;b60,1,0,0;r2;l8,0;", 0), x -> x.join(1));
    }

    private static void proudOnes() {
        the.says("A PROUD one does not JOIN behind a PROUD one");
        String text = "b60,1,3,0;b60,1,3,0;b60,1,0,0;b60,1,2,0;b60,1,4,0;r5;";
        the.refused("behind a first one", NO, Sentences.night(text, 0), x -> x.join(1));
        the.refused("behind a third one", NO, Sentences.night(text, 2, 3, 1), x -> x.join(0));
        the.due("as the first one", Sentences.night(text).get().join(1), 1);
        the.due("behind a magpie", Sentences.night(text, 2).get().join(0), 2);
        the.due("behind a fledgling", Sentences.night(text, 3).get().join(0), 2);
        the.due("behind a paired one", Sentences.night(text, 4).get().join(0), 2);
        the.due("behind a magpie behind a proud one", Sentences.night(text, 0, 2).get().join(1), 3);
        for (int b = 2; b <= 4; b++) {
            the.due("another kind behind a proud one", Sentences.night(text, 0).get().join(b), 2);
        }
        BirdBridge left = Sentences.laid(text, 0);
        left.leave();
        the.due("when the proud one has left", left.join(1), 1);
        the.due("a crow behind a proud one", Sentences.night("b60,1,1,0;b60,1,3,0;b60,1,1,0;r5;", 0, 1).get().join(2), 3);
    }

    private static void crowsFirst() {
        the.says("none but a CROW JOINS as the first one, if there is a CROW among all BIRDS");
        String text = "b60,1,0,0;b60,1,2,0;b60,1,3,0;b60,1,4,0;b60,1,1,0;b60,1,1,0;r6;";
        for (int b = 0; b < 4; b++) {
            int other = b;
            the.refused("bird " + b + " first", NO, Sentences.night(text), x -> x.join(other));
            the.due("bird " + b + " behind a crow", Sentences.night(text, 4).get().join(b), 2);
        }
        the.due("a crow first", Sentences.night(text).get().join(4), 1);
        the.due("the other crow first", Sentences.night(text).get().join(5), 1);
        the.due("a crow behind a crow", Sentences.night(text, 5).get().join(4), 2);
        BirdBridge left = Sentences.laid(text, 4);
        left.leave();
        the.due("a magpie, when the crow has left", left.join(0), NO);
        String none = "b60,1,0,0;b60,1,2,0;b60,1,3,0;b60,1,4,0;r6;";
        for (int b = 0; b < 4; b++) {
            the.due("bird " + b + " first without crows", Sentences.night(none).get().join(b), 1);
        }
        BirdBridge anew = Sentences.laid(text);
        Sentences.tell(anew, none);
        anew.lay();
        the.due("the crows were of another river", anew.join(0), 1);
        for (String alone : new String[] {"b60,1,1,0;b60,1,0,0;b60,1,0,0;r6;", "b60,1,0,0;b60,1,1,0;b60,1,0,0;r6;",
            "b60,1,0,0;b60,1,0,0;b60,1,1,0;r6;"}) {
            for (int b = 0; b < 3; b++) {
                boolean isCrow = Sentences.laid(alone).bird(b, 2) == 1;
                the.due("bird " + b + " of " + alone, Sentences.laid(alone).join(b), isCrow ? 1 : NO);
            }
        }
    }

    private static void leaving() {
        the.says("10: The last one LEAVES: which it was. NO: there is none");
        String text = "b60,1,0,0;b60,1,0,0;b60,1,0,0;r2;l8,0;";
        the.refused("none", NO, Sentences.night(text), BirdBridge::leave);
        BirdBridge x = Sentences.laid(text, 2, 0);
        the.due("the last", x.leave(), 0);
        the.due("the only one", x.leave(), 2);
        the.due("none", x.leave(), NO);
        the.due("how many can be undone", x.count(8), 4);
        the.due("places", x.count(2), 0);
        BirdBridge eight = Sentences.laid(Sentences.many("b9,1,0,0;", 8) + "r9;", 7, 6, 5, 4, 3, 2, 1, 0);
        for (int b = 0; b < 8; b++) {
            the.due("leave of eight", eight.leave(), b);
        }
        the.due("all have left", eight.leave(), NO);
    }

    private static void whileSheIsOnIt() {
        the.says("Nobody JOINS or LEAVES, no YEAR changes, while she is on it");
        String text = "b60,1,0,0;b60,1,0,0;b60,1,0,0;r2;l8,1;";
        for (int place = 0; place < 2; place++) {
            the.refused("join at place " + place, NO, Sentences.walk(place + 1, text, 0, 1), x -> x.join(2));
            the.refused("leave at place " + place, NO, Sentences.walk(place + 1, text, 0, 1), BirdBridge::leave);
            the.refused("year at place " + place, NO, Sentences.walk(place + 1, text, 0, 1), x -> x.year(3));
        }
        BirdBridge ahead = Sentences.laid(text, 0, 1);
        the.due("leave on the left bank", ahead.leave(), 1);
        the.due("join on the left bank", ahead.join(2), 2);
        the.due("year on the left bank", ahead.year(3), 11);
        BirdBridge over = Sentences.walked(Sentences.laid(text, 0, 1), 3);
        the.due("leave on the right bank", over.leave(), 1);
        the.due("join on the right bank", over.join(2), 2);
        the.due("year on the right bank", over.year(3), 11);
        the.due("narrow: leave at the only place", Sentences.walk(1, "b60,1,0,0;r1;l8,1;", 0).get().leave(), NO);
        the.due("narrow: leave on the right bank", Sentences.walk(2, "b60,1,0,0;r1;l8,1;", 0).get().leave(), 0);
    }

    private static void whenBroken() {
        the.says("Nobody JOINS or LEAVES, no YEAR changes, while ... it is BROKEN");
        Supplier<BirdBridge> broken = Sentences.walk(2, "b60,1,0,0;b9,1,0,0;b60,1,0,0;r2;l12,1;", 0, 1);
        the.due("broken", broken.get().count(6), 1);
        the.refused("join", NO, broken, x -> x.join(2));
        the.refused("leave", NO, broken, BirdBridge::leave);
        the.refused("year", NO, broken, x -> x.year(3));
        the.says("nothing goes on");
        the.refused("step", NO, broken, BirdBridge::step);
        the.refused("stand", NO, broken, BirdBridge::stand);
        the.refused("over", NO, broken, x -> x.over(0));
    }

    private static void whatIsBorne() {
        the.says("those beside it in THE BRIDGE half of that, cut; those behind these a quarter, cut; others nothing");
        BirdBridge x = Sentences.laid(Sentences.many("b60,1,0,0;", 5) + "r5;l15,0;", 0, 1, 2, 3, 4);
        the.row("on the left bank", k -> x.span(k, 3), 0, 0, 0, 0, 0, 0, BAD);
        int[][] bears = {{15, 7, 3, 0, 0}, {7, 15, 7, 3, 0}, {3, 7, 15, 7, 3}, {0, 3, 7, 15, 7}, {0, 0, 3, 7, 15}};
        for (int place = 0; place < 5; place++) {
            the.due("step", x.step(), place);
            the.row("at place " + place, k -> x.span(k, 3), 0, bears[place]);
        }
        x.step();
        the.row("on the right bank", k -> x.span(k, 3), 0, 0, 0, 0, 0, 0);
        BirdBridge light = Sentences.walk(1, Sentences.many("b60,1,0,0;", 3) + "r3;l1,0;", 0, 1, 2).get();
        the.row("1 heavy", k -> light.span(k, 3), 0, 1, 0, 0);
        BirdBridge three = Sentences.walk(1, Sentences.many("b60,1,0,0;", 3) + "r3;l3,0;", 0, 1, 2).get();
        the.row("3 heavy", k -> three.span(k, 3), 0, 3, 1, 0);
        the.says("each spans the next L places");
        BirdBridge wide = Sentences.laid("b60,3,0,0;b60,2,0,0;b60,3,0,0;r6;l16,0;", 0, 1, 2);
        int[] under = {0, 0, 0, 1, 1, 2};
        for (int place = 0; place < 6; place++) {
            wide.step();
            for (int k = 0; k < 3; k++) {
                the.due("at place " + place + ", the " + k + "th", wide.span(k, 3), 16 >> Math.abs(k - under[place]));
            }
        }
    }

    private static void bornByTheNextWind() {
        the.says("what it bears now (3; by the WIND of the minute that comes next)");
        BirdBridge x = Sentences.laid("b60,1,0,0;b60,1,0,0;r2;w20;w1;w4;l6,2;", 0, 1);
        x.year(2);
        the.due("nothing on the left bank", x.span(0, 3), 0);
        x.step();
        the.due("wind of minute 1", x.span(0, 3), 11);
        the.due("half of it", x.span(1, 3), 5);
        x.stand();
        the.due("wind of minute 2", x.span(0, 3), 14);
        x.step();
        the.due("wind of minute 0 again", x.span(1, 3), 30);
        the.due("half of it", x.span(0, 3), 15);
        x.step();
        the.due("nothing on the right bank", x.span(1, 3), 0);
    }

    private static void crowsAmid() {
        the.says("of a CROW that is not the first or the last of THE BRIDGE half of that, cut");
        String text = "b41,1,1,0;b41,1,1,0;b41,1,1,0;b60,1,0,0;r4;l8,0;";
        the.due("alone", Sentences.night(text, 0).get().span(0, 2), 41);
        BirdBridge two = Sentences.laid(text, 0, 1);
        the.row("of two", k -> two.span(k, 2), 0, 41, 41);
        BirdBridge three = Sentences.laid(text, 0, 1, 2);
        the.row("of three", k -> three.span(k, 2), 0, 41, 20, 41);
        three.leave();
        the.due("the last again", three.span(1, 2), 41);
        BirdBridge four = Sentences.laid(text, 0, 1, 2, 3);
        the.row("of four", k -> four.span(k, 2), 0, 41, 20, 20, 60);
        BirdBridge tired = Sentences.walk(1, text, 0, 1, 2, 3).get();
        tired.stand();
        tired.step();
        // 4, 4 and 8 tire by 0, 0 and 1: half of 40
        the.due("half of what it is not tired by", tired.span(1, 2), 20);
        tired.stand();
        the.due("half of 39, cut", tired.span(1, 2), 19);
        BirdBridge weak = Sentences.walk(1, "b60,1,1,0;b1,1,1,0;b60,1,0,0;r3;l1,0;", 0, 1, 2).get();
        the.due("half of 1", weak.span(1, 2), 0);
        the.due("it bears half of 1, which is nothing", weak.count(6), 0);
        the.due("it does not bear 1", weak.step(), NONE);
        the.says("(others are not halved)");
        for (int kind : new int[] {0, 2, 3, 4}) {
            BirdBridge amid = Sentences.laid("b60,1,1,0;b41,1," + kind + ",0;b60,1,0,0;r3;l1,0;", 0, 1, 2);
            the.due("kind " + kind, amid.span(1, 2), 41);
        }
    }

    private static void pairedOnes() {
        the.says("of a PAIRED one that has another PAIRED one beside it 5 more");
        String text = "b10,1,4,0;b20,1,4,0;b30,1,4,0;b40,1,0,0;b50,1,4,0;r8;l4,0;";
        the.due("alone", Sentences.night(text, 0).get().span(0, 2), 10);
        BirdBridge two = Sentences.laid(text, 0, 1);
        the.row("two", k -> two.span(k, 2), 0, 15, 25);
        BirdBridge three = Sentences.laid(text, 0, 1, 2);
        the.row("three: 5 more, and no 10", k -> three.span(k, 2), 0, 15, 25, 35);
        BirdBridge apart = Sentences.laid(text, 0, 3, 1);
        the.row("a magpie between them", k -> apart.span(k, 2), 0, 10, 40, 20);
        BirdBridge right = Sentences.laid(text, 3, 0, 1);
        the.row("a magpie ahead of them", k -> right.span(k, 2), 0, 40, 15, 25);
        right.leave();
        the.row("the other one has left", k -> right.span(k, 2), 0, 40, 10);
        BirdBridge holds = Sentences.laid("b10,1,4,0;b10,1,4,0;r2;l15,0;", 0, 1);
        the.due("it bears 5 more", holds.step(), 0);
        the.due("and 6 more not", Sentences.laid("b10,1,4,0;b10,1,4,0;r2;l16,0;", 0, 1).step(), NONE);
    }

    private static int tiredBy(int kind, int heavy) {
        return Sentences.walk(1, "b60,1," + kind + ",0;r1;l" + heavy + ",0;", 0).get().bird(0, 4);
    }

    private static void tiring() {
        the.says("A minute tires a BIRD by what it bears, by 8, cut");
        for (int kind : new int[] {0, 1, 3, 4}) {
            the.row("kind " + kind, heavy -> tiredBy(kind, heavy), 7, 0, 1);
            the.row("kind " + kind, heavy -> tiredBy(kind, heavy), 15, 1, 2);
        }
        the.says("a FLEDGLING by 2 times that");
        the.row("fledgling", heavy -> tiredBy(2, heavy), 7, 0, 2);
        the.row("fledgling", heavy -> tiredBy(2, heavy), 15, 2, 4);
        the.says("else all are (tired)");
        String text = Sentences.many("b60,1,0,0;", 4) + "b60,1,0,0;r4;l";
        BirdBridge x = Sentences.walk(1, text + "31,0;", 0, 1, 2, 3).get();
        the.row("by 31, 15, 7 and 0; not in it", b -> x.bird(b, 4), 0, 3, 1, 0, 0, 0);
        BirdBridge more = Sentences.walk(1, text + "32,0;", 0, 1, 2, 3).get();
        the.row("by 32, 16, 8 and 0; not in it", b -> more.bird(b, 4), 0, 4, 2, 1, 0, 0);
    }

    private static void stepRefused() {
        the.says("11: NO: not WHOLE, BROKEN, she is over.");
        String text = "b60,1,0,0;b60,1,0,0;r2;l8,0;";
        the.refused("no bridge", NO, Sentences.night(text), BirdBridge::step);
        the.refused("not WHOLE", NO, Sentences.night(text, 0), BirdBridge::step);
        the.refused("BROKEN", NO, Sentences.walk(1, "b1,1,0,0;r1;", 0), BirdBridge::step);
        the.refused("she is over", NO, Sentences.walk(3, text, 0, 1), BirdBridge::step);
        BirdBridge over = Sentences.walked(Sentences.laid(text, 0, 1), 3);
        over.leave();
        the.due("she is over, not WHOLE", over.step(), NO);
        over.join(1);
        the.due("she is over, WHOLE again", over.step(), NO);
    }

    private static void stepToTheBanks() {
        the.says("place 0 first; from place W less 1 to the right bank, bearing nothing");
        BirdBridge narrow = Sentences.laid("b12,1,0,0;r1;w0;w20;l12,0;", 0);
        the.row("step", n -> narrow.step(), 0, 0, 1, NO);
        the.due("tired by the only place alone", narrow.bird(0, 4), 1);
        the.due("a minute all the same", narrow.count(4), 2);
        the.due("not BROKEN by that wind", narrow.count(6), 0);
        BirdBridge longer = Sentences.laid("b12,3,0,0;r1;w0;w20;l12,0;", 0);
        the.row("step, under one that spans the bank too", n -> longer.step(), 0, 0, 1, NO);
        the.due("tired by the only place alone", longer.bird(0, 4), 1);
        the.due("nothing borne on the bank", longer.span(0, 3), 0);
        BirdBridge broad = Sentences.laid(Sentences.many("b60,3,0,0;", 3) + "r9;l1,0;", 0, 1, 2);
        the.row("step", n -> broad.step(), 0, 0, 1, 2, 3, 4, 5, 6, 7, 8, 9, NO);
        the.due("the minute", broad.count(4), 10);
        the.says("It takes a minute (minute 0 the first one)");
        the.due("a wind of 20 in minute 0", Sentences.night("b31,1,0,0;r1;w20;w0;l12,0;", 0).get().step(), NONE);
        the.due("a wind of 20 in minute 1", Sentences.night("b31,1,0,0;r1;w0;w20;l12,0;", 0).get().step(), 0);
    }

    private static void moreThanItsPower() {
        the.says("if one of THE BRIDGE bears more than its POWER ahead of it, THE BRIDGE BREAKS");
        the.due("as much as its power", Sentences.night("b12,1,0,0;r1;l12,0;", 0).get().step(), 0);
        the.due("1 more", Sentences.night("b11,1,0,0;r1;l12,0;", 0).get().step(), NONE);
        String beside = "b60,1,0,0;b6,1,0,0;b60,1,0,0;r3;l";
        the.due("half of 13 on 6", Sentences.night(beside + "13,0;", 0, 1, 2).get().step(), 0);
        the.due("half of 14 on 6", Sentences.night(beside + "14,0;", 0, 1, 2).get().step(), NONE);
        String behind = "b60,1,0,0;b60,1,0,0;b3,1,0,0;b1,1,0,0;r4;l";
        the.due("a quarter of 15 on 3, nothing on 1", Sentences.night(behind + "15,0;", 0, 1, 2, 3).get().step(), 0);
        the.due("a quarter of 16 on 3", Sentences.night(behind + "16,0;", 0, 1, 2, 3).get().step(), NONE);
        String left = "b3,1,0,0;b60,1,0,0;b60,1,0,0;r3;l";
        the.due("the first one under 4", Sentences.night(left + "4,0;", 0, 1, 2).get().step(), NONE);
        the.due("ahead of it, not behind it", Sentences.night("b40,1,0,0;r1;l40,0;", 0).get().step(), 0);
        BirdBridge fledgling = Sentences.laid("b21,2,2,0;r2;l16,0;", 0);
        the.row("17 left, then 13", n -> n == 0 ? fledgling.step() : fledgling.stand(), 0, 0, 0, NONE);
    }

    private static void breaking() {
        the.says("nobody is tired (the minute has gone by all the same)");
        BirdBridge x = Sentences.laid("b60,1,0,0;b1,1,0,0;r2;l24,0;", 0, 1);
        the.due("step", x.step(), NONE);
        the.row("tired", b -> x.bird(b, 4), 0, 0, 0);
        the.due("the minute", x.count(4), 1);
        the.due("BROKEN", x.count(6), 1);
        BirdBridge later = Sentences.laid("b60,1,0,0;b14,1,0,0;r2;l16,0;", 0, 1);
        the.due("step", later.step(), 0);
        the.due("step", later.step(), NONE);
        the.row("tired by the first minute alone", b -> later.bird(b, 4), 0, 2, 1);
        the.due("the minute", later.count(4), 2);
        BirdBridge stood = Sentences.laid("b14,1,0,0;r1;l12,0;", 0);
        the.row("stands on 14, 13, 12, 11", n -> n == 0 ? stood.step() : stood.stand(), 0, 0, 0, 0, NONE, NO);
        the.due("tired by three minutes", stood.bird(0, 4), 3);
        the.due("the minute", stood.count(4), 4);
        the.due("BROKEN", stood.count(6), 1);
    }

    private static void standing() {
        the.says("12: She STANDS: where she is. NO: she is on no place, BROKEN.");
        String text = "b60,1,0,0;b60,1,0,0;r2;l8,0;";
        the.refused("without a bridge", NO, Sentences.night(text), BirdBridge::stand);
        the.refused("not WHOLE", NO, Sentences.night(text, 0), BirdBridge::stand);
        the.refused("on the left bank", NO, Sentences.night(text, 0, 1), BirdBridge::stand);
        the.refused("on the right bank", NO, Sentences.walk(3, text, 0, 1), BirdBridge::stand);
        the.refused("BROKEN", NO, Sentences.walk(1, "b1,1,0,0;r1;", 0), BirdBridge::stand);
        BirdBridge x = Sentences.laid(text, 0, 1);
        x.step();
        the.due("at place 0", x.stand(), 0);
        x.step();
        the.due("at place W less 1", x.stand(), 1);
        the.due("the minute", x.count(4), 4);
        the.due("to the right bank from there", x.step(), 2);
    }

    private static void yearOfHers() {
        the.says("13: YEAR n (0 to 20): how heavy she is. BAD");
        Supplier<BirdBridge> bank = Sentences.night("b60,1,0,0;r1;l40,9;", 0);
        the.refused("year -1", BAD, bank, x -> x.year(-1));
        the.refused("year 21", BAD, bank, x -> x.year(21));
        for (int n : Sentences.FAR) {
            the.due("year " + n, bank.get().year(n), BAD);
        }
        the.due("year 0", bank.get().year(0), 40);
        the.due("year 1", bank.get().year(1), 49);
        the.due("year 20", bank.get().year(20), 220);
        the.due("year 20, never heavier", Sentences.night("b9,1,0,0;l7,0;").get().year(20), 7);
        BirdBridge back = bank.get();
        back.year(20);
        the.due("from year 20 back to 0", back.year(0), 40);
        the.due("the year", back.count(5), 0);
        the.due("no minute", back.count(4), 0);
        the.says("Of several the first in this order (year: BAD; NO)");
        the.refused("she is on it", BAD, Sentences.walk(1, "b60,1,0,0;r1;", 0), x -> x.year(21));
        the.refused("BROKEN", BAD, Sentences.walk(1, "b1,1,0,0;r1;", 0), x -> x.year(-1));
        the.says("how heavy she is this YEAR");
        BirdBridge heavy = Sentences.laid("b13,1,0,0;r1;l12,1;", 0);
        heavy.year(1);
        the.due("13 on 13", heavy.step(), 0);
        BirdBridge heavier = Sentences.laid("b13,1,0,0;r1;l12,1;", 0);
        heavier.year(2);
        the.due("14 on 13", heavier.step(), NONE);
    }

    private static void undoRefused() {
        the.says("14: UNDONE: how many more can be. NO.");
        the.refused("nothing yet", NO, Sentences.night("b60,1,0,0;r1;"), BirdBridge::undo);
        BirdBridge x = Sentences.laid("b60,1,0,0;r1;", 0);
        the.due("the only one", x.undo(), 0);
        the.due("no more", x.undo(), NO);
        the.due("it is not undone that it was undone", x.count(1), 0);
        BirdBridge others = Sentences.laid("b60,1,0,0;r1;", 0);
        others.seen(0, 1);
        others.keep();
        others.write('x');
        others.wipe();
        others.forget();
        others.fewest(0);
        others.over(0);
        the.due("nothing else is undone", others.count(8), 1);
        the.due("the joining", others.undo(), 0);
        the.due("it is out", others.count(1), 0);
    }

    private static void lastEight() {
        the.says("UNDONE is the latest JOINING, LEAVING, STEP, STANDING, YEAR (the last 8 can be).");
        for (int years = 0; years <= 20; years++) {
            BirdBridge x = Sentences.laid("b60,1,0,0;r1;l1,1;");
            for (int n = 1; n <= years; n++) {
                x.year(n);
            }
            int can = Math.min(years, 8);
            the.due("how many of " + years, x.count(8), can);
            for (int left = can - 1; left >= 0; left--) {
                the.due("undo", x.undo(), left);
                the.due("the year", x.count(5), years - can + left);
            }
            the.due("no more", x.undo(), NO);
            the.due("the year", x.count(5), years - can);
        }
        BirdBridge again = Sentences.laid("b60,1,0,0;r1;l1,1;");
        for (int n = 1; n <= 9; n++) {
            again.year(n);
        }
        again.undo();
        again.undo();
        again.year(15);
        the.due("another one instead", again.count(8), 7);
        the.due("it is undone", again.undo() + again.count(5), 13);
    }

    private static void undoneEach() {
        the.says("UNDONE is the latest JOINING, LEAVING, STEP, STANDING, YEAR (each of them)");
        String text = "b40,1,0,0;b14,1,2,0;r2;w0;w2;l12,1;";
        BirdBridge x = Sentences.laid(text, 0);
        x.leave();
        the.due("a LEAVING", x.undo(), 1);
        the.due("it is in", x.bird(0, 5), 0);
        x.join(1);
        x.year(0);
        the.due("a YEAR that is the same", x.undo(), 2);
        x.step();
        the.due("tired", x.bird(0, 4), 1);
        the.due("a STEP from the left bank", x.undo(), 2);
        the.row("minute, year, broken", x::count, 4, 0, 0, 0);
        the.due("untired", x.bird(0, 4), 0);
        the.due("she is on the left bank", x.stand(), NO);
        x.step();
        x.stand();
        the.due("a STANDING", x.undo(), 3);
        the.due("the minute", x.count(4), 1);
        the.due("where she was", x.stand(), 0);
        the.due("she goes on", x.step(), 1);
        the.due("a STANDING that BREAKS", x.stand(), NONE);
        the.due("undo of it", x.undo(), 5);
        the.row("minute, year, broken", x::count, 4, 3, 0, 0);
        the.due("to the right bank", x.step(), 2);
        the.due("undo of it", x.undo(), 5);
        the.due("she is at the last place", x.step(), 2);
        BirdBridge broken = Sentences.walk(1, "b1,1,0,0;b60,1,0,0;r1;", 0).get();
        the.due("a STEP that BREAKS", broken.undo(), 1);
        the.row("minute, year, broken", broken::count, 4, 0, 0, 0);
        the.due("it goes on", broken.leave(), 0);
        the.due("another one", broken.join(1), 1);
        the.due("it holds", broken.step(), 0);
    }
}
