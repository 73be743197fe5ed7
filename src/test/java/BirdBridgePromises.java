/** Each promise of the document by itself: ordinary inputs, the edges it names, wrong inputs. */
public final class BirdBridgePromises {
    private static final int BAD = -1, NO = -2, FULL = -3, NONE = -4;
    private static int wrong = 0;

    private static void due(String what, int got, int want) {
        if (got != want) {
            wrong++;
            System.out.println(what + " answered " + got + ", due is " + want);
        }
    }

    private static void put(BirdBridge x, String text) {
        x.wipe();
        for (int i = 0; i < text.length(); i++) {
            due("write in " + text, x.write(text.charAt(i)), i + 1);
        }
    }

    private static BirdBridge laid(String text, int... joining) {
        BirdBridge x = new BirdBridge();
        put(x, text);
        due("fault of " + text, x.fault(), NONE);
        due("lay of " + text, x.lay() > 0 ? 1 : 0, 1);
        for (int i = 0; i < joining.length; i++) {
            due("join of " + joining[i], x.join(joining[i]), i + 1);
        }
        return x;
    }

    private static String many(String item, int times) {
        StringBuilder text = new StringBuilder();
        for (int i = 0; i < times; i++) {
            text.append(item);
        }
        return text.toString();
    }

    public static void main(String[] args) {
        newObject();
        writeAndWipe();
        fault();
        lay();
        bird();
        wind();
        span();
        join();
        leave();
        step();
        stand();
        year();
        undo();
        over();
        fewest();
        mend();
        calls();
        second();
        years();
        seenForgetStood();
        rain();
        century();
        keepAndBack();
        count();
        allEight();
        numbersFarOff();
        System.out.println(wrong == 0 ? "all promises hold" : wrong + " answers are not as due");
        if (wrong != 0) {
            System.exit(1);
        }
    }

    private static void newObject() {
        BirdBridge x = new BirdBridge();
        int[][] birds = {{30, 2, 0, 5}, {20, 1, 1, 0}, {18, 2, 2, 9}, {40, 1, 3, 3}, {25, 2, 4, 7}};
        for (int b = 0; b < birds.length; b++) {
            for (int what = 0; what < 4; what++) {
                due("new: bird " + b + " " + what, x.bird(b, what), birds[b][what]);
            }
        }
        int[] counts = {5, 0, 0, 5, 0, 0, 0, 0, 0, 0, 0};
        for (int what = 0; what < counts.length; what++) {
            due("new: count " + what, x.count(what), counts[what]);
        }
        int[] winds = {2, 6, 0, 2, 6, 0};
        for (int t = 0; t < winds.length; t++) {
            due("new: wind " + t, x.wind(t), winds[t]);
        }
        due("new: heavy in year 0", x.year(0), 12);
        due("new: heavy in year 7", x.year(7), 19);
        due("new: text is empty", x.wipe(), 0);
    }

    private static void writeAndWipe() {
        BirdBridge x = new BirdBridge();
        int[] bad = {31, 127, -1, 0, 256 + 98, Integer.MIN_VALUE, Integer.MAX_VALUE};
        for (int letter : bad) {
            due("write " + letter, x.write(letter), BAD);
        }
        due("write 32", x.write(32), 1);
        due("write 126", x.write(126), 2);
        for (int i = 3; i <= 200; i++) {
            due("write the " + i + "th", x.write('w'), i);
        }
        due("write the 201st", x.write('w'), FULL);
        due("write: BAD ahead of FULL", x.write(31), BAD);
        due("count of letters", x.count(10), 200);
        due("wipe", x.wipe(), 200);
        due("wipe again", x.wipe(), 0);
        due("write behind wipe", x.write('r'), 1);
    }

    private static void faultOf(String text, int want) {
        BirdBridge x = new BirdBridge();
        put(x, text);
        due("fault of '" + text + "'", x.fault(), want);
        due("length behind fault", x.count(10), text.length());
        if (want != NONE) {
            due("lay of '" + text + "'", x.lay(), NO);
            due("birds behind a refused lay", x.count(0), 5);
        }
    }

    private static void fault() {
        String[] fine = {"", "b1,1,0,0;", "b60,3,4,40;", "b01,01,00,00;", "r1;", "r9;", "r09;r1;", "w0;", "w20;w1;",
            "l1,0;", "l40,9;l2,2;", many("b1,1,0,0;", 8), many("w1;", 8), many("r5;", 30)};
        for (String text : fine) {
            faultOf(text, NONE);
        }
        String[] bad = {"b0,1,0,0;", "b61,1,0,0;", "b1,0,0,0;", "b1,4,0,0;", "b1,1,5,0;", "b1,1,0,41;", "b1,1,0;",
            "b1,1,0,0,0;", "b1,1,0,0", "b1,1,0,", "b", "b;", "b,1,0,0;", "b1;1,0,0;", "b001,1,0,0;", "b-1,1,0,0;",
            "r0;", "r10;", "r;", "r5", "r005;", "r5,5;", "r 5;", "w21;", "w;", "w1", "w1,1;", "l0,0;", "l41,0;",
            "l1,10;", "l1;", "l1,1", "l1,1,1;", "x", "x1;", ";", ",", " r5;", "B1,1,0,0;", "5;", "r5 ;", "~", "r:;", "r/;"};
        for (String text : bad) {
            faultOf(text, 0);
            faultOf("r5;w12;" + text, 7);
            faultOf(text + "r5;", 0);
        }
        faultOf("r5; ", 3);
        faultOf("r5;w99;x", 3);
        faultOf(many("b1,1,0,0;", 9), 72);
        faultOf(many("w1;", 9) + "x", 24);
        faultOf("r5;;", 3);
    }

    private static void lay() {
        BirdBridge x = new BirdBridge();
        due("lay of nothing", x.lay(), NO);
        put(x, "r5;w3;l2,2;");
        due("fault without birds", x.fault(), NONE);
        due("lay without birds", x.lay(), NO);
        due("width behind a refused lay", x.count(3), 5);
        x.join(1);
        x.join(0);
        x.join(2);
        x.seen(0, 1);
        x.keep();
        x.step();
        x.year(3);
        put(x, "b9,3,0,1;r9;r2;l9,9;l5,3;");
        due("lay", x.lay(), 1);
        int[] counts = {1, 0, 0, 2, 0, 0, 0, 0, 0, 0, 25};
        for (int what = 0; what < counts.length; what++) {
            due("behind lay: count " + what, x.count(what), counts[what]);
        }
        due("behind lay: undo", x.undo(), NO);
        due("behind lay: back", x.back(), NO);
        due("behind lay: no wind", x.wind(5), 0);
        due("behind lay: untired", x.bird(0, 4), 0);
        due("behind lay: join", x.join(0), 1);
        due("behind lay: she steps", x.step(), 0);
        due("behind lay: she steps", x.step(), 1);
        x.year(2);
        due("lay while she is on it", x.lay(), 1);
        due("she is on the left bank", x.stand(), NO);
        x.year(2);
        due("the last l counts", x.year(2), 11);
        put(x, "b9,3,0,1;");
        x.lay();
        due("width without r", x.count(3), 5);
        due("heavy without l", x.year(2), 14);
        BirdBridge broken = laid("b1,3,0,0;r1;", 0);
        due("breaks", broken.step(), NONE);
        due("lay when broken", broken.lay(), 1);
        due("broken no more", broken.count(6), 0);
        due("joins again", broken.join(0), 1);
    }

    private static void bird() {
        BirdBridge x = laid("b60,3,4,40;b1,1,1,0;b40,2,2,7;r4;l20,0;w3;", 1);
        x.undo();
        due("join", x.join(1), 1);
        due("join", x.join(0), 2);
        int[][] want = {{60, 3, 4, 40, 0, 1}, {1, 1, 1, 0, 0, 0}, {40, 2, 2, 7, 0, NONE}};
        for (int b = 0; b < want.length; b++) {
            for (int what = 0; what < 6; what++) {
                due("bird " + b + " " + what, x.bird(b, what), want[b][what]);
            }
            due("bird what 6", x.bird(b, 6), BAD);
            due("bird what -1", x.bird(b, -1), BAD);
        }
        due("bird -1", x.bird(-1, 0), BAD);
        due("bird 3", x.bird(3, 0), BAD);
        due("bird far", x.bird(Integer.MAX_VALUE, 5), BAD);
    }

    private static void wind() {
        BirdBridge x = laid("b9,3,0,1;w20;w0;w7;");
        due("wind 0", x.wind(0), 20);
        due("wind 1", x.wind(1), 0);
        due("wind 2", x.wind(2), 7);
        due("wind 3", x.wind(3), 20);
        due("wind 98", x.wind(98), 7);
        due("wind 99", x.wind(99), 20);
        due("wind 100", x.wind(100), BAD);
        due("wind -1", x.wind(-1), BAD);
        due("no wind at all", laid("b9,3,0,1;").wind(99), 0);
    }

    private static void span() {
        BirdBridge crows = laid("b60,1,1,0;b41,2,1,1;b20,1,0,2;r4;w4;l20,0;", 0, 1);
        due("last crow", crows.span(1, 2), 41);
        due("join", crows.join(2), 3);
        due("crow in the middle", crows.span(1, 2), 20);
        due("first crow", crows.span(0, 2), 60);
        due("first place", crows.span(2, 1), 3);
        due("bears nothing yet", crows.span(0, 3), 0);
        due("step", crows.step(), 0);
        int[] bears = {24, 12, 6};
        int[] power = {57, 20, 20};
        for (int k = 0; k < 3; k++) {
            due("bears " + k, crows.span(k, 3), bears[k]);
            due("power " + k, crows.span(k, 2), power[k]);
        }
        BirdBridge pairs = laid("b10,1,4,0;b11,1,4,0;b12,1,0,0;b13,1,4,0;r4;w1;w9;l2,0;", 0, 1, 2, 3);
        int[] paired = {15, 16, 12, 13};
        for (int k = 0; k < 4; k++) {
            due("paired " + k, pairs.span(k, 2), paired[k]);
        }
        due("step in the wind of minute 0", pairs.step(), 0);
        due("bears by the wind of minute 1", pairs.span(0, 3), 11);
        due("bears by the wind of minute 1", pairs.span(1, 3), 5);
        due("bears by the wind of minute 1", pairs.span(2, 3), 2);
        due("others nothing", pairs.span(3, 3), 0);
        due("span what 4", pairs.span(0, 4), BAD);
        due("span what -1", pairs.span(0, -1), BAD);
        due("span k 4", pairs.span(4, 0), BAD);
        due("span k -1", pairs.span(-1, 0), BAD);
    }

    private static void join() {
        BirdBridge x = laid("b9,1,0,0;b9,1,3,0;b9,1,3,0;b9,3,2,0;r4;l1,0;");
        due("join -1", x.join(-1), BAD);
        due("join 4", x.join(4), BAD);
        due("any first without crows", x.join(1), 1);
        due("proud behind proud", x.join(2), NO);
        due("in it", x.join(1), NO);
        due("magpie behind proud", x.join(0), 2);
        due("proud behind magpie", x.join(2), 3);
        due("broader than the river", x.join(3), 4);
        due("places", x.count(2), 4);
        due("step", x.step(), 0);
        due("she is on it", x.join(3), NO);
        due("BAD ahead of NO", x.join(4), BAD);
        BirdBridge whole = laid("b9,3,0,0;b9,1,0,0;b9,1,1,0;r2;", 2);
        due("magpie behind crow", whole.join(0), 2);
        due("whole", whole.join(1), NO);
        BirdBridge crow = laid("b9,3,0,0;b9,1,1,0;r2;");
        due("only a crow is first", crow.join(0), NO);
        due("nothing changed", crow.count(1) + crow.count(8), 0);
        due("the crow", crow.join(1), 1);
    }

    private static void leave() {
        BirdBridge x = laid("b50,2,0,0;b50,2,0,0;r4;l8,0;");
        due("leave without birds", x.leave(), NO);
        x.join(1);
        x.join(0);
        due("leave", x.leave(), 0);
        due("leave", x.leave(), 1);
        due("leave without birds", x.leave(), NO);
        x.join(1);
        x.join(0);
        x.step();
        due("she is on it", x.leave(), NO);
        x.step();
        x.step();
        x.step();
        due("over", x.step(), 4);
        due("leave behind her", x.leave(), 0);
        due("it stays tired", x.bird(0, 4), 2);
        BirdBridge broken = laid("b1,3,0,0;r1;", 0);
        broken.step();
        due("broken", broken.leave(), NO);
    }

    private static void step() {
        BirdBridge x = laid("b50,1,0,0;b50,2,2,0;r3;w4;w0;w9;l20,0;");
        due("step on nothing", x.step(), NO);
        x.join(0);
        due("not whole", x.step(), NO);
        due("the minute", x.count(4), 0);
        x.join(1);
        due("step", x.step(), 0);
        due("tired by 24", x.bird(0, 4), 3);
        due("fledgling tired by 12", x.bird(1, 4), 2);
        due("step", x.step(), 1);
        due("tired by 10", x.bird(0, 4), 4);
        due("fledgling tired by 20", x.bird(1, 4), 6);
        due("step", x.step(), 2);
        due("tired by 14", x.bird(0, 4), 5);
        due("fledgling tired by 29", x.bird(1, 4), 12);
        due("to the bank", x.step(), 3);
        due("untired by that", x.bird(1, 4), 12);
        due("the minute", x.count(4), 4);
        due("she is over", x.step(), NO);
        due("the minute", x.count(4), 4);
        BirdBridge just = laid("b24,1,0,0;r1;w4;l20,0;", 0);
        due("as much as its power", just.step(), 0);
        due("less power now", just.stand(), NONE);
        due("nobody is tired", just.bird(0, 4), 3);
        due("the minute has gone by", just.count(4), 2);
        due("broken", just.count(6), 1);
        due("nothing goes on", just.step(), NO);
        due("the minute", just.count(4), 2);
        BirdBridge half = laid("b60,1,0,0;b11,1,0,0;r2;l24,0;", 0, 1);
        due("breaks beside her", half.step(), NONE);
        BirdBridge quarter = laid("b60,1,0,0;b60,1,0,0;b5,1,0,0;r3;l24,0;", 0, 1, 2);
        due("breaks behind that", quarter.step(), NONE);
    }

    private static void stand() {
        BirdBridge x = laid("b25,2,0,0;r2;w0;w7;l8,0;");
        due("stand without a bridge", x.stand(), NO);
        x.join(0);
        due("on the left bank", x.stand(), NO);
        x.step();
        due("stand", x.stand(), 0);
        due("tired by 8 and 15", x.bird(0, 4), 2);
        due("step", x.step(), 1);
        due("stand", x.stand(), 1);
        due("the minute", x.count(4), 4);
        due("over", x.step(), 2);
        due("on the right bank", x.stand(), NO);
        due("the minute", x.count(4), 5);
    }

    private static void year() {
        BirdBridge x = laid("b60,2,0,0;r2;l7,9;", 0);
        due("year 0", x.year(0), 7);
        due("year 20", x.year(20), 187);
        due("the year", x.count(5), 20);
        due("year 21", x.year(21), BAD);
        due("year -1", x.year(-1), BAD);
        due("year 1", x.year(1), 16);
        due("it is no minute", x.count(4), 0);
        x.step();
        due("she is on it", x.year(2), NO);
        due("BAD ahead of NO", x.year(21), BAD);
        due("the year", x.count(5), 1);
        due("she is 16 heavy", x.span(0, 3), 16);
        x.step();
        x.step();
        due("behind her", x.year(2), 25);
        BirdBridge broken = laid("b1,3,0,0;r1;", 0);
        broken.step();
        due("broken", broken.year(1), NO);
    }

    private static void undo() {
        BirdBridge x = laid("b60,1,0,0;b60,1,0,0;b20,1,0,0;r2;l16,1;");
        due("nothing yet", x.undo(), NO);
        x.join(0);
        x.join(1);
        x.leave();
        x.join(2);
        x.year(4);
        x.step();
        for (int i = 0; i < 4; i++) {
            due("stands", x.stand(), 0);
        }
        due("all but eight are gone", x.count(8), 8);
        due("it holds still", x.count(6), 0);
        int[] tired = {8, 6, 4, 2};
        for (int i = 0; i < 4; i++) {
            due("undo of standing", x.undo(), 7 - i);
            due("tired", x.bird(0, 4), tired[i]);
            due("the minute", x.count(4), 4 - i);
        }
        due("undo of the step", x.undo(), 3);
        due("she is on the left bank", x.stand(), NO);
        due("untired", x.bird(0, 4), 0);
        due("undo of the year", x.undo(), 2);
        due("the year", x.count(5), 0);
        due("undo of the join", x.undo(), 1);
        due("in the bridge", x.count(1), 1);
        due("undo of the leave", x.undo(), 0);
        due("it is back", x.bird(1, 5), 1);
        due("no more", x.undo(), NO);
        BirdBridge broken = laid("b1,3,0,0;r1;", 0);
        broken.step();
        due("undo of the breaking", broken.undo(), 1);
        due("broken no more", broken.count(6), 0);
        due("the minute", broken.count(4), 0);
        due("breaks again", broken.step(), NONE);
        BirdBridge refused = laid("b9,1,0,0;r3;", 0);
        refused.join(0);
        refused.step();
        refused.stand();
        refused.year(21);
        refused.join(9);
        due("what is refused is not undone", refused.count(8), 1);
    }

    private static void over() {
        BirdBridge x = laid("b60,1,0,0;b27,2,0,0;r3;w0;w0;w9;l20,0;");
        due("not whole", x.over(0), NO);
        due("BAD ahead of NO", x.over(2), BAD);
        x.join(0);
        x.join(1);
        due("over -1", x.over(-1), BAD);
        due("the minute", x.over(0), 2);
        due("the place", x.over(1), 2);
        due("nothing changed", x.count(4) + x.bird(0, 4) + x.count(6), 0);
        x.step();
        due("the minute from now on", x.over(0), 2);
        x.stand();
        due("another wind, the minute", x.over(0), 2);
        due("another wind, the place", x.over(1), 1);
        x.undo();
        x.step();
        due("the last place", x.over(1), 2);
        due("breaks", x.step(), NONE);
        due("broken", x.over(0), NO);
        BirdBridge fine = laid("b60,3,0,0;r2;l1,0;", 0);
        due("none", fine.over(0), NONE);
        fine.step();
        fine.step();
        due("none at the last place", fine.over(1), NONE);
        fine.step();
        due("she is over", fine.over(0), NONE);
        due("BAD ahead of NONE", fine.over(2), BAD);
        fine.leave();
        due("NO ahead of NONE", fine.over(0), NO);
    }

    private static void fewest() {
        BirdBridge x = laid("b20,1,0,0;b20,2,0,0;b20,2,0,0;b20,3,3,0;b20,1,3,0;r4;l12,1;");
        due("how many", x.fewest(-1), 2);
        due("the first", x.fewest(0), 0);
        due("the second", x.fewest(1), 3);
        due("not so long", x.fewest(2), NONE);
        due("not so long", x.fewest(7), NONE);
        due("fewest 8", x.fewest(8), BAD);
        due("fewest -2", x.fewest(-2), BAD);
        x.year(9);
        due("nobody bears her", x.fewest(-1), NONE);
        due("nobody bears her", x.fewest(0), NONE);
        due("BAD ahead of NONE", x.fewest(8), BAD);
        x.undo();
        x.join(0);
        x.join(3);
        x.step();
        x.step();
        due("untired, from minute 0 on", x.fewest(1), 3);
        BirdBridge crow = laid("b60,2,0,0;b20,1,1,0;b60,3,0,0;r3;l12,0;");
        due("a crow first", crow.fewest(0), 1);
        due("then the lowest", crow.fewest(1), 0);
        BirdBridge pairs = laid("b16,1,4,0;b16,1,4,0;r2;l20,0;");
        due("paired ones bear more", pairs.fewest(-1), 2);
        BirdBridge proud = laid("b60,1,3,0;b60,1,3,0;r2;l1,0;");
        due("proud ones do not join", proud.fewest(-1), NONE);
        due("no bridge is so broad", laid("b60,3,0,0;r4;l1,0;").fewest(-1), NONE);
        BirdBridge again = laid("b20,1,0,0;r1;l12,0;");
        due("one", again.fewest(-1), 1);
        put(again, "b5,1,0,0;r1;l12,0;");
        again.lay();
        due("laid anew", again.fewest(-1), NONE);
    }

    private static void mend() {
        BirdBridge x = laid("b20,1,3,0;b20,2,0,0;b9,2,0,0;b30,2,3,0;b30,2,0,0;b60,1,1,0;r3;l12,0;");
        due("no k-th", x.mend(0), BAD);
        x.join(5);
        due("not whole", x.mend(0), NO);
        due("BAD ahead of NO", x.mend(1), BAD);
        x.join(1);
        due("too weak, then proud", x.mend(1), 3);
        due("whether it could join or not", x.mend(0), 0);
        due("mend -1", x.mend(-1), BAD);
        due("mend 2", x.mend(2), BAD);
        BirdBridge heavy = laid("b20,2,0,0;b19,2,0,0;b20,2,0,0;b24,2,0,0;r2;w0;w8;l12,1;", 0);
        due("breaks in the wind", heavy.over(0), 1);
        due("all but the last break in minute 1", heavy.mend(0), 3);
        heavy.step();
        due("from the minute that it is", heavy.mend(0), 2);
        due("nothing changed", heavy.bird(0, 5), 0);
        heavy.undo();
        heavy.year(1);
        heavy.step();
        due("heavier this year", heavy.mend(0), 3);
        BirdBridge broken = laid("b1,1,0,0;b60,1,0,0;b60,3,0,0;r1;", 0);
        broken.step();
        due("broken or not", broken.mend(0), 1);
        BirdBridge none = laid("b60,1,0,0;b60,2,0,0;r1;l1,0;", 0);
        due("another span is none", none.mend(0), NONE);
    }

    private static void calls() {
        BirdBridge x = laid("b9,1,0,3;b9,1,0,4;b9,1,0,4;b9,1,0,0;b9,1,0,40;r5;");
        due("without birds", x.calls(-1), 0);
        due("without birds", x.calls(0), BAD);
        x.join(3);
        due("one of 0 minutes", x.calls(-1), 0);
        x.join(2);
        x.join(0);
        x.join(1);
        due("the last one is there", x.calls(-1), 5);
        int[] order = {1, 2, 0, 3};
        for (int k = 0; k < 4; k++) {
            due("called as " + k, x.calls(k), order[k]);
        }
        due("calls 4", x.calls(4), BAD);
        due("calls -2", x.calls(-2), BAD);
        x.join(4);
        due("from far", x.calls(-1), 40);
        due("the farthest first", x.calls(0), 4);
    }

    private static void second() {
        BirdBridge x = laid("b30,1,0,0;b30,1,0,0;r2;w0;l16,0;");
        due("not whole", x.second(1), NO);
        due("BAD ahead of NO", x.second(0), BAD);
        x.join(0);
        x.join(1);
        due("second 41", x.second(41), BAD);
        due("second 0", x.second(0), BAD);
        due("both at once", x.second(16), 0);
        // t 0: 25 and 27 in minute 0, each tired by 3; then 27 and 25 of 27
        due("both at once, just so", x.second(19), 0);
        due("a little heavier", x.second(20), 2);
        // t 0: 16 and 12, 8 and 24: 28 and 32; t 1: they are at place 1 both: 40; t 2: 16, 8 then 24 alone
        due("behind one another", x.second(24), 2);
        due("too heavy", x.second(40), NONE);
        due("nothing changed", x.bird(0, 4) + x.count(4), 0);
        BirdBridge windy = laid("b20,1,0,0;r1;w0;w9;w0;w9;l12,0;", 0);
        due("its own wind, if she is not on it", windy.second(12), 2);
        BirdBridge late = laid("b40,1,0,0;r1;w1;w20;w20;w20;w20;w20;w20;w0;l12,0;", 0);
        due("a gap between them", late.second(38), 7);
        BirdBridge never = laid("b5,1,0,0;r1;l12,0;", 0);
        due("she does not come over", never.second(1), NONE);
    }

    private static void years() {
        BirdBridge x = laid("b20,1,0,0;b60,1,0,0;r1;l12,2;");
        due("not whole", x.years(), NO);
        x.join(0);
        due("20 is borne, 22 is not", x.years(), 5);
        x.year(3);
        x.step();
        due("untired, from year 0 on", x.years(), 5);
        BirdBridge last = laid("b60,1,0,0;r1;l1,3;", 0);
        due("61 in year 20", last.years(), 20);
        BirdBridge all = laid("b60,1,0,0;r1;l40,1;", 0);
        due("60 in year 20", all.years(), NONE);
        due("never in year 0", laid("b5,1,0,0;r1;", 0).years(), 0);
    }

    private static void seenForgetStood() {
        BirdBridge x = laid("b9,1,0,0;b9,1,2,0;b9,1,0,0;b9,1,0,0;r4;w0;w16;l16,1;");
        due("no k-th", x.seen(0, 0), BAD);
        due("not whole", x.stood(1), NO);
        due("BAD ahead of NO", x.stood(0), BAD);
        for (int b = 0; b < 4; b++) {
            x.join(b);
        }
        due("nothing seen", x.stood(1), 15);
        // she at place 0: minute 0: 16, 8, 4, 0; minute 1: 32, 16, 8, 0
        due("seen", x.seen(0, 6), 1);
        due("at place 0 for 2", x.stood(2), 1);
        due("at place 0 for 1", x.stood(1), 0);
        due("seen the fledgling", x.seen(1, 6), 2);
        due("at place 0 for 2", x.stood(2), 1);
        due("seen the third", x.seen(2, 1), 3);
        due("at place 0 for 2", x.stood(2), 1);
        due("seen the last", x.seen(3, 1), 4);
        due("it is not so", x.stood(2), 0);
        due("forget", x.forget(), 4);
        due("forget again", x.forget(), 0);
        // the first at place 1: 8 and 16: 3; at place 2: 4 and 8: 1; at place 3: nothing
        x.seen(3, 0);
        due("not at 1 to 3", x.stood(2), 1);
        x.forget();
        x.seen(1, 6);
        due("at 0 and at 2", x.stood(2), 5);
        due("seen k -1", x.seen(-1, 0), BAD);
        due("seen k 4", x.seen(4, 0), BAD);
        due("seen h -1", x.seen(0, -1), BAD);
        due("seen h 100", x.seen(0, 100), BAD);
        for (int i = 2; i <= 6; i++) {
            due("seen", x.seen(1, 6), i);
        }
        due("seen a seventh", x.seen(1, 6), FULL);
        due("BAD ahead of FULL", x.seen(4, 0), BAD);
        due("stood 20", x.stood(20), 0);
        due("stood 21", x.stood(21), BAD);
        due("stood -1", x.stood(-1), BAD);
        due("how many", x.count(7), 6);
        BirdBridge shorter = laid("b9,1,0,0;b9,1,0,0;b9,2,0,0;r2;l1,0;", 0, 1);
        shorter.seen(1, 0);
        due("so far", shorter.stood(1), 3);
        shorter.leave();
        due("not whole", shorter.stood(1), NO);
        shorter.leave();
        shorter.join(2);
        due("there is none then", shorter.stood(1), 0);
        shorter.seen(0, 99);
        due("undo keeps what is seen", shorter.undo() + shorter.count(7), 6);
        BirdBridge far = laid("b60,1,0,0;r1;w0;l39,0;", 0);
        far.seen(0, 80);
        due("tired by 4 for 20 minutes", far.stood(20), 1);
        due("this year's weight", far.year(0) + far.stood(19), 39);
    }

    private static void rain() {
        BirdBridge x = laid("b9,1,0,0;r9;");
        due("rain 0", x.rain(0), 1000000);
        due("rain 1", x.rain(1), 387420);
        due("rain 5", x.rain(5), 1953);
        due("rain 8", x.rain(8), 0);
        due("rain 10", x.rain(10), 0);
        due("rain 11", x.rain(11), BAD);
        due("rain -1", x.rain(-1), BAD);
        due("one minute", laid("b9,1,0,0;r1;").rain(9), 100000);
    }

    /** The draws by hand: z 0, y 0, k 0: 1 by 8 is 0; k 1: x 332: 110224 less 65521 is 44703, by 8: 5587, modulo 21: 1. */
    private static void century() {
        BirdBridge x = laid("b12,1,0,0;b12,1,0,0;r1;w20;l12,0;");
        due("not whole", x.century(0, 1, 0), NO);
        due("BAD ahead of NO", x.century(0, 0, 0), BAD);
        x.join(0);
        due("no wind at first", x.century(0, 1, 0), 1);
        due("none", x.century(0, 1, 1), NONE);
        // y 1: x 6152: 37847104 modulo 65521 is 40487, by 8: 5060, modulo 21: 20
        due("a wind of 20 in year 1", x.century(0, 2, 0), 1);
        due("the first", x.century(0, 2, 1), 1);
        int[][] bad = {{-1, 1, 0}, {10000, 1, 0}, {0, 0, 0}, {0, 91, 0}, {0, 1, 2}, {0, 1, -1}};
        for (int[] row : bad) {
            due("century BAD", x.century(row[0], row[1], row[2]), BAD);
        }
        BirdBridge two = laid("b12,2,0,0;r2;l12,0;", 0);
        due("a wind of 1 in minute 1", two.century(0, 1, 1), 0);
        BirdBridge strong = laid("b14,2,0,0;r2;l12,0;", 0);
        due("tired by 1, it bears 13", strong.century(0, 1, 0), 1);
        BirdBridge each = laid("b60,1,0,0;r1;l40,0;", 0);
        due("untired each year", each.century(9999, 90, 0), 90);
        due("none", each.century(9999, 90, 1), NONE);
        BirdBridge heavier = laid("b60,1,0,0;r1;l1,9;", 0);
        heavier.year(20);
        due("from year 0 on, ever heavier", heavier.century(3, 90, 0) <= 7 ? 1 : 0, 1);
        due("the weight of year 0", heavier.century(3, 1, 0), 1);
    }

    private static void keepAndBack() {
        BirdBridge x = laid("b60,1,0,0;b10,1,0,0;r1;l10,3;", 0);
        due("nothing kept", x.back(), NO);
        due("keep", x.keep(), 1);
        due("it can still be undone", x.count(8), 1);
        x.leave();
        x.join(1);
        x.year(5);
        x.seen(0, 3);
        due("breaks", x.step(), NONE);
        due("keep", x.keep(), 2);
        due("keep a third", x.keep(), FULL);
        x.undo();
        x.leave();
        due("back", x.back(), 1);
        int[] counts = {2, 1, 1, 1, 1, 5, 1, 1, 0, 1};
        for (int what = 0; what < counts.length; what++) {
            due("behind back: count " + what, x.count(what), counts[what]);
        }
        due("nothing is undone", x.undo(), NO);
        due("still broken", x.step(), NO);
        due("back", x.back(), 0);
        due("the year", x.count(5), 0);
        due("the minute", x.count(4), 0);
        due("the bird", x.span(0, 0), 0);
        due("seen stays", x.count(7), 1);
        due("back", x.back(), NO);
        due("a step", x.step(), 0);
        x.keep();
        x.stand();
        due("tired", x.bird(0, 4), 2);
        x.back();
        due("tired as it was", x.bird(0, 4), 1);
        due("she is where she was", x.stand(), 0);
    }

    private static void count() {
        BirdBridge x = laid("b60,1,0,0;b60,3,0,0;b9,1,0,0;r2;l9,1;", 0, 1);
        x.year(3);
        x.keep();
        x.seen(0, 1);
        x.seen(0, 1);
        x.step();
        int[] counts = {3, 2, 2, 2, 1, 3, 0, 2, 4, 1, 37};
        for (int what = 0; what < counts.length; what++) {
            due("count " + what, x.count(what), counts[what]);
        }
        due("count 11", x.count(11), BAD);
        due("count -1", x.count(-1), BAD);
    }

    /** The longest bridge that there can be, and one that all birds together do not make whole. */
    private static void allEight() {
        BirdBridge x = laid(many("b60,1,0,1;", 8) + "r8;l8,0;", 7, 6, 5, 4, 3, 2, 1, 0);
        due("eight: fewest", x.fewest(-1), 8);
        for (int k = 0; k < 8; k++) {
            due("eight: fewest " + k, x.fewest(k), k);
        }
        due("eight: over", x.over(0), NONE);
        due("eight: mend", x.mend(7), NONE);
        due("eight: calls", x.calls(-1), 8);
        due("eight: the last called", x.calls(7), 7);
        due("eight: second", x.second(40), 0);
        due("eight: years", x.years(), NONE);
        due("eight: century", x.century(9999, 90, 0), 90);
        due("eight: seen", x.seen(7, 2), 1);
        due("eight: stood", x.stood(2), 128);
        for (int place = 0; place <= 8; place++) {
            due("eight: step", x.step(), place);
        }
        for (int b = 0; b < 8; b++) {
            due("eight: tired", x.bird(b, 4), 1);
        }
        due("eight: power", x.span(7, 2), 59);
        BirdBridge broad = laid(many("b60,1,0,1;", 8) + "r9;l8,0;", 0, 1, 2, 3, 4, 5, 6, 7);
        due("too broad: join", broad.join(0), NO);
        due("too broad: step", broad.step(), NO);
        due("too broad: fewest", broad.fewest(-1), NONE);
        due("too broad: places", broad.count(2), 8);
        due("too broad: leave", broad.leave(), 7);
        BirdBridge seven = laid(many("b60,1,0,1;", 8) + "r7;l8,0;");
        due("seven: fewest", seven.fewest(-1), 7);
        due("seven: not so long", seven.fewest(7), NONE);
    }

    private static void numbersFarOff() {
        BirdBridge whole = laid("b60,1,0,0;b60,1,0,0;b60,1,0,0;r2;w3;l8,0;", 0, 1);
        whole.step();
        BirdBridge broken = laid("b1,3,0,0;r1;", 0);
        broken.step();
        int[] far = {Integer.MIN_VALUE, Integer.MIN_VALUE + 1, -1000, -5, 1000000, Integer.MAX_VALUE - 1, Integer.MAX_VALUE};
        for (BirdBridge x : new BirdBridge[] {new BirdBridge(), whole, broken}) {
            int[] ahead = new int[11];
            for (int what = 0; what < ahead.length; what++) {
                ahead[what] = x.count(what);
            }
            for (int n : far) {
                int[] answers = {x.write(n), x.bird(n, 0), x.bird(0, n), x.wind(n), x.span(n, 0), x.span(0, n), x.join(n),
                    x.year(n), x.over(n), x.fewest(n), x.mend(n), x.calls(n), x.second(n), x.seen(n, 0), x.seen(0, n),
                    x.stood(n), x.rain(n), x.century(n, 1, 0), x.century(0, n, 0), x.century(0, 1, n), x.count(n)};
                for (int i = 0; i < answers.length; i++) {
                    due("far off: call " + i + " with " + n, answers[i], BAD);
                }
            }
            for (int what = 0; what < ahead.length; what++) {
                due("far off: nothing changes, count " + what, x.count(what), ahead[what]);
            }
        }
    }
}
