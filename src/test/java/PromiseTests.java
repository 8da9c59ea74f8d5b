/** For each promise of the document: ordinary inputs, the edges that it names, and wrong inputs, worked out by hand. */
public final class PromiseTests {
    private static final int LOW = Integer.MIN_VALUE, HIGH = Integer.MAX_VALUE;
    private static int wrong = 0;
    private static int promise = 0;
    private static int number = 0;

    private static void due(long got, long want) {
        number++;
        if (got != want) {
            wrong++;
            System.out.println("promise " + promise + ", due() number " + number + ": answered " + got + ", due is " + want);
        }
    }

    private static CutOffFilter next(int which) {
        promise = which;
        number = 0;
        return new CutOffFilter();
    }

    private static int read(CutOffFilter x, String text) {
        x.wipe();
        for (int i = 0; i < text.length(); i++) {
            x.feed(text.charAt(i));
        }
        return x.read();
    }

    private static CutOffFilter by(int which, String text) {
        CutOffFilter x = next(which);
        due(read(x, text), text.split(";").length);
        return x;
    }

    private static void fill(CutOffFilter x, int row, int sort, long... numbers) {
        due(x.row(row, sort, numbers.length), 1);
        for (int i = 0; i < numbers.length; i++) {
            due(x.put(row, i, numbers[i]), 1);
        }
    }

    private static void causes(CutOffFilter x, int step, int what, int number) {
        due(x.cause(0), step);
        due(x.cause(1), what);
        due(x.cause(2), number);
    }

    private static void newObject() {
        CutOffFilter x = next(1);
        int[] first = {2, 4, 0, 1, 0, 0, 0, 0};
        for (int what = 0; what < 8; what++) {
            due(x.of(what, 1), first[what]);
        }
        due(x.of(2, 2), 0);
        due(x.of(2, 3), 0);
        due(x.word(1), 0);
        due(x.word(2), 0);
        due(x.word(3), -1001);
        due(x.alike(), -5);
        due(x.cause(0), -1002);
        due(x.trace(0), -2);
        for (int what = 0; what < 5; what++) {
            due(x.count(what), 0);
        }
        for (int row = 0; row < 4; row++) {
            due(x.run(row, 0), -11);
        }
        due(CutOffFilter.VOID, Long.MIN_VALUE);
        due(CutOffFilter.ENDED, Long.MIN_VALUE + 1);
        due(CutOffFilter.BAD, -1);
        due(CutOffFilter.NOT, -2);
        due(CutOffFilter.FULL, -3);
        due(CutOffFilter.STATE, -5);
        due(CutOffFilter.NO, -1001);
        due(CutOffFilter.NONE, -1002);
        due(CutOffFilter.HALTED, -1005);
    }

    private static void set() {
        CutOffFilter x = next(2);
        int[][] ranges = {{1, 3}, {2, 5}, {-99, 99}, {-99, 99}, {0, 6}, {0, 4}, {0, 4}, {0, 1}};
        for (int what = 0; what < 8; what++) {
            x = new CutOffFilter();
            if (what == 0) {
                due(x.set(1, 0, 2), 4);
            }
            int was = x.of(what, 1);
            due(x.set(what, 1, ranges[what][0] - 1), -1001);
            due(x.set(what, 1, ranges[what][1] + 1), -1001);
            due(x.set(what, 1, LOW), -1001);
            due(x.set(what, 1, HIGH), -1001);
            due(x.of(what, 1), was);
            due(x.set(what, 1, ranges[what][0]), was);
            due(x.set(what, 1, ranges[what][1]), ranges[what][0]);
            due(x.of(what, 1), ranges[what][1]);
        }
        x = new CutOffFilter();
        for (int k = 1; k <= 3; k++) {
            due(x.set(2, k, 100), -1001);
            due(x.set(2, k, -100), -1001);
            due(x.set(2, k, 99), 0);
            due(x.set(2, k, -99), 99);
        }
        x = new CutOffFilter();
        due(x.set(-1, 1, 1), -1001);
        due(x.set(8, 1, 1), -1001);
        due(x.set(LOW, 1, 1), -1001);
        due(x.set(HIGH, 1, 1), -1001);
        due(x.set(2, 0, 1), -1001);
        due(x.set(2, 4, 1), -1001);
        due(x.set(2, HIGH, 1), -1001);
        due(x.set(3, 77, 5), 1);
        for (int k = 1; k <= 3; k++) {
            due(x.set(2, k, 10 * k), 0);
        }
        for (int k = 1; k <= 3; k++) {
            due(x.of(2, k), 10 * k);
        }
        // a number out of its range comes ahead of what is too large together
        due(x.set(0, 0, 3), -1005);
        due(x.set(0, 0, 4), -1001);
        due(x.of(0, 0), 2);
        due(x.set(1, 0, 5), 4);
        due(x.set(0, 0, 3), -1005);
        due(x.set(1, 0, 3), 5);
        due(x.set(0, 0, 3), 2);
        due(x.set(1, 0, 4), -1005);
        due(x.set(1, 0, 5), -1005);
        // THE PAST becomes all 0 only as ORDER or BITS becomes another one
        due(x.past(3, 2), 0);
        due(x.set(0, 0, 3), 3);
        due(x.set(1, 0, 3), 3);
        due(x.set(2, 1, 50), 10);
        due(x.word(3), 2);
        due(x.set(1, 0, 2), 3);
        due(x.word(3), 0);
        due(x.past(1, 1), 0);
        due(x.set(0, 0, 1), 3);
        due(x.word(1), 0);
        due(x.set(0, 0, 3), 1);
        due(x.word(3), 0);
    }

    private static void of() {
        CutOffFilter x = by(3, "n1;b5;c1,-7;c2,8;c3,-9;i-3;s6;r4;o3;p1");
        due(x.of(0, -5), 1);
        due(x.of(1, 9), 5);
        due(x.of(2, 1), -7);
        due(x.of(2, 2), 8);
        due(x.of(2, 3), -9);
        due(x.of(3, 0), -3);
        due(x.of(4, LOW), 6);
        due(x.of(5, HIGH), 4);
        due(x.of(6, 0), 3);
        due(x.of(7, 0), 1);
        due(x.of(2, 0), -1001);
        due(x.of(2, 4), -1001);
        due(x.of(2, LOW), -1001);
        due(x.of(8, 1), -1001);
        due(x.of(-1, 1), -1001);
        due(x.of(HIGH, 1), -1001);
    }

    private static void past() {
        CutOffFilter x = next(4);
        due(x.past(1, 7), 0);
        due(x.past(1, -8), 7);
        due(x.past(2, 3), 0);
        due(x.word(1), -8);
        due(x.word(2), 3);
        due(x.past(0, 1), -1001);
        due(x.past(3, 1), -1001);
        due(x.past(LOW, 1), -1001);
        due(x.past(HIGH, 1), -1001);
        due(x.past(1, 8), -1001);
        due(x.past(1, -9), -1001);
        due(x.past(1, LOW), -1001);
        due(x.past(1, HIGH), -1001);
        due(x.word(1), -8);
        due(x.count(0), 0);
        due(x.undo(), -5);
    }

    private static void word() {
        CutOffFilter x = by(5, "b3;n3;y1,1;y2,2;y3,-4");
        due(x.word(1), 1);
        due(x.word(2), 2);
        due(x.word(3), -4);
        due(x.word(0), -1001);
        due(x.word(4), -1001);
        due(x.word(LOW), -1001);
        due(x.set(0, 0, 1), 3);
        due(x.word(1), 0);
        due(x.word(2), -1001);
    }

    private static void step() {
        // 3 x + 2 y1 - y2, halved downward
        CutOffFilter x = by(6, "i3;c1,2;c2,-1;s1");
        due(x.step(1), 1);
        due(x.step(1), 2);
        due(x.word(1), 2);
        due(x.word(2), 1);
        due(x.step(-1), 0);
        due(x.step(-4), -7);
        due(x.step(100), -1001);
        due(x.step(-100), -1001);
        due(x.step(LOW), -1001);
        due(x.step(HIGH), -1001);
        due(x.count(4), 4);
        due(x.word(1), -7);
        due(x.word(2), 0);
        // COEFFICIENT 3 plays no part by ORDER 2, and does by ORDER 3
        x = by(6, "c3,1;y2,5");
        due(x.step(1), 1);
        x = by(6, "b3;n3;c3,1;y3,2");
        due(x.step(1), 3);
        due(x.word(3), 0);
        // PLACE: -3/2 and 5/2 and 3/2 apart by DOWN: -2 + 2 + 1, together 5/2: 2
        x = by(6, "s1;c1,-1;c2,1;i1;y1,3;y2,5");
        due(x.step(3), 2);
        x = by(6, "p1;s1;c1,-1;c2,1;i1;y1,3;y2,5");
        due(x.step(3), 1);
        // the five kinds of overflow, for V 9 and -9
        int[] up = {-7, 7, 0, 3, -1005};
        int[] down = {7, -8, 0, 3, -1005};
        for (int kind = 0; kind < 5; kind++) {
            x = by(6, "y1,3;o" + kind);
            due(x.step(9), up[kind]);
            due(x.word(2), kind == 4 ? 0 : 3);
            x = by(6, "y1,3;o" + kind);
            due(x.step(-9), down[kind]);
            due(x.word(1), kind == 4 ? 3 : down[kind]);
            due(x.count(4), kind == 4 ? 0 : 1);
        }
        causes(x, 0, 0, -9);
    }

    private static void would() {
        CutOffFilter x = by(7, "c1,3;c2,-2;s2;r2;y1,5;y2,-4");
        // ALL: 10 + 15 + 8 = 33; by 4: 8.25, that is 8: OVER, -8; LOSS 32 - 33
        due(x.would(10, 1), 33);
        due(x.would(10, 2), 8);
        due(x.would(10, 3), -1);
        due(x.would(10, 4), 1);
        due(x.would(10, 0), -8);
        due(x.would(6, 0), 7);
        due(x.would(6, 4), 0);
        due(x.would(6, 3), -1);
        due(x.set(7, 0, 1), 0);
        // apart: 3 (2.5), 4 (3.75), 2
        due(x.would(10, 2), 9);
        due(x.would(10, 3), 3);
        due(x.set(6, 0, 4), 0);
        due(x.would(10, 0), -1005);
        due(x.would(10, 1), 33);
        due(x.would(10, 2), 9);
        due(x.would(10, 3), 3);
        due(x.would(10, 4), 1);
        due(x.cause(0), -1002);
        due(x.word(1), 5);
        due(x.count(4), 0);
        due(x.would(99, 1), 122);
        due(x.would(-99, 1), -76);
        due(x.would(100, 1), -1000000);
        due(x.would(-100, 0), -1000000);
        due(x.would(LOW, 0), -1000000);
        due(x.would(0, -1), -1000000);
        due(x.would(0, 5), -1000000);
        due(x.would(0, HIGH), -1000000);
    }

    private static void rounded() {
        CutOffFilter x = next(8);
        int[] told = {-8, -7, -6, -5, -4, -3, -2, -1, 0, 1, 2, 3, 4, 5, 6, 7, 8};
        int[][] due = {
            {-2, -2, -2, -2, -1, -1, -1, -1, 0, 0, 0, 0, 1, 1, 1, 1, 2},
            {-2, -1, -1, -1, -1, 0, 0, 0, 0, 0, 0, 0, 1, 1, 1, 1, 2},
            {-2, -2, -1, -1, -1, -1, 0, 0, 0, 0, 1, 1, 1, 1, 2, 2, 2},
            {-2, -2, -2, -1, -1, -1, 0, 0, 0, 0, 0, 1, 1, 1, 2, 2, 2},
            {-2, -2, -2, -2, -1, -1, -1, -1, 0, 1, 1, 1, 1, 2, 2, 2, 2}};
        for (int kind = 0; kind < 5; kind++) {
            for (int i = 0; i < told.length; i++) {
                due(x.rounded(kind, 2, told[i]), due[kind][i]);
                due(x.rounded(kind, 0, told[i]), told[i]);
            }
        }
        due(x.rounded(0, 6, 100000), 1562);
        due(x.rounded(4, 6, 100000), 1563);
        due(x.rounded(2, 6, -100000), -1562);
        due(x.rounded(3, 6, -100000), -1562);
        due(x.rounded(3, 1, 1), 0);
        due(x.rounded(3, 1, 3), 2);
        due(x.rounded(3, 1, -1), 0);
        due(x.rounded(3, 1, -3), -2);
        due(x.rounded(0, 0, 100001), -1000000);
        due(x.rounded(0, 0, -100001), -1000000);
        due(x.rounded(0, 0, LOW), -1000000);
        due(x.rounded(-1, 0, 0), -1000000);
        due(x.rounded(5, 0, 0), -1000000);
        due(x.rounded(0, -1, 0), -1000000);
        due(x.rounded(0, 7, 0), -1000000);
        due(x.rounded(HIGH, HIGH, HIGH), -1000000);
    }

    private static void bounded() {
        CutOffFilter x = next(9);
        due(x.past(1, -3), 0);
        int[] told = {-9, -8, 7, 8, 24, -25, 100000, -100000};
        int[][] due = {
            {7, -8, 7, -8, -8, 7, 0, 0},
            {-8, -8, 7, 7, 7, -8, 7, -8},
            {0, -8, 7, 0, 0, 0, 0, 0},
            {-3, -8, 7, -3, -3, -3, -3, -3},
            {-1005, -8, 7, -1005, -1005, -1005, -1005, -1005}};
        for (int kind = 0; kind < 5; kind++) {
            for (int i = 0; i < told.length; i++) {
                due(x.bounded(kind, told[i]), due[kind][i]);
            }
        }
        due(x.set(1, 0, 2), 4);
        due(x.bounded(0, 2), -2);
        due(x.bounded(1, 7), 1);
        due(x.set(1, 0, 5), 2);
        due(x.bounded(0, 16), -16);
        due(x.bounded(0, 15), 15);
        due(x.bounded(5, 0), -1001);
        due(x.bounded(-1, 0), -1001);
        due(x.bounded(0, 100001), -1001);
        due(x.bounded(4, -100001), -1001);
        due(x.bounded(4, LOW), -1001);
        due(x.cause(0), -1002);
    }

    /** y = x + y1, by HALT: outputs 3, 5, 4, and 4 + 4 is too much. */
    private static CutOffFilter halting(int which) {
        CutOffFilter x = by(which, "c1,1;o4");
        fill(x, 1, 1, 3, 2, -1, 4, 1);
        return x;
    }

    private static void output() {
        CutOffFilter x = halting(10);
        due(x.output(1, 0), 3);
        due(x.output(1, 1), 5);
        due(x.output(1, 2), 4);
        due(x.output(1, 3), -1002);
        due(x.output(1, -1), -1002);
        due(x.output(1, LOW), -1002);
        due(x.output(1, HIGH), -1002);
        due(x.output(0, 0), -1011);
        due(x.output(0, -1), -1011);
        due(x.output(4, 0), -1001);
        due(x.output(-1, 0), -1001);
        due(x.word(1), 0);
        due(x.cause(0), -1002);
        // inputs beyond -99 .. 99 count as that bound: 99 by 16 is 6, -99 by 16 is -7
        x = by(10, "s4");
        fill(x, 0, 2, 100, -100, Long.MAX_VALUE, Long.MIN_VALUE, 4294967295L);
        due(x.output(0, 0), 6);
        due(x.output(0, 1), -7);
        due(x.output(0, 2), 6);
        due(x.output(0, 3), -7);
        due(x.output(0, 4), 6);
        due(x.output(0, 5), -1002);
        due(x.row(3, 0, 0), 1);
        due(x.output(3, 0), -1002);
        due(x.row(3, 0, 40), 1);
        due(x.output(3, 39), 0);
        due(x.output(3, 40), -1002);
    }

    private static void run() {
        CutOffFilter x = halting(11);
        due(x.run(1, 0), 3);
        due(x.run(1, 1), 1);
        due(x.run(1, 2), 1);
        due(x.set(6, 0, 1), 4);
        due(x.run(1, 0), 5);
        due(x.run(1, 1), 2);
        due(x.run(1, 2), 0);
        due(x.run(0, 0), -11);
        due(x.run(0, 3), -1);
        due(x.run(1, 3), -1);
        due(x.run(1, -1), -1);
        due(x.run(4, 0), -1);
        due(x.run(-1, 0), -1);
        due(x.count(4), 0);
        due(x.row(2, 2, 0), 1);
        due(x.run(2, 0), 0);
        due(x.run(2, 1), 0);
        due(x.run(2, 2), 0);
    }

    private static void go() {
        CutOffFilter x = halting(12);
        due(x.go(1), 3);
        due(x.word(1), 4);
        due(x.word(2), 5);
        due(x.count(4), 3);
        causes(x, 3, 0, 8);
        due(x.go(0), -11);
        due(x.go(4), -1);
        due(x.go(-1), -1);
        due(x.go(LOW), -1);
        due(x.set(6, 0, 0), 4);
        fill(x, 0, 0, -1, -1);
        due(x.go(0), 2);
        due(x.word(1), 2);
        due(x.word(2), 3);
        due(x.count(4), 5);
        causes(x, 3, 0, 8);
    }

    private static void noise() {
        // by DOWN and 4: LOSSES -1, -2, 0, -3, together 6 by 4
        CutOffFilter x = by(13, "s2");
        fill(x, 0, 0, 1, 2, 4, 7);
        due(x.noise(0, 0), 3);
        due(x.noise(0, 1), 2);
        due(x.set(5, 0, 4), 0);
        // by AWAY: 3, 2, 0, 1
        due(x.noise(0, 0), 3);
        due(x.noise(0, 1), 2);
        fill(x, 1, 0, 4, 8);
        due(x.noise(1, 0), 0);
        due(x.noise(1, 1), 1);
        fill(x, 1, 0, 1, 2, 39, 1);
        due(x.set(6, 0, 4), 0);
        // 39 by 4 is too much: 3 and 2 alone
        due(x.noise(1, 0), 5);
        due(x.noise(1, 1), 4);
        due(x.row(2, 0, 0), 1);
        due(x.noise(2, 0), 0);
        due(x.noise(2, 1), 1);
        due(x.noise(3, 0), Long.MIN_VALUE);
        due(x.noise(4, 0), Long.MIN_VALUE);
        due(x.noise(-1, 0), Long.MIN_VALUE);
        due(x.noise(0, 2), Long.MIN_VALUE);
        due(x.noise(0, -1), Long.MIN_VALUE);
    }

    private static void levels() {
        CutOffFilter x = by(14, "s2");
        fill(x, 0, 0, 1, 2, 5, 4, 6, 0);
        due(x.levels(0), 3);
        due(x.row(1, 0, 0), 1);
        due(x.levels(1), 0);
        fill(x, 1, 0, 1, 2, 39, 4);
        due(x.levels(1), 4);
        due(x.set(6, 0, 4), 0);
        due(x.levels(1), 2);
        due(x.levels(2), -11);
        due(x.levels(4), -1);
        due(x.levels(-1), -1);
    }

    private static void level() {
        CutOffFilter x = by(15, "s2");
        fill(x, 0, 0, 1, 2, 5, 4, 6, 0, 9);
        int[][] due = {{-1, 4, 3}, {-1, 2, 2}, {0, 1, 2}};
        for (int k = 0; k < 3; k++) {
            for (int what = 0; what < 3; what++) {
                due(x.level(0, k, what), due[k][what]);
            }
        }
        due(x.level(0, 3, 0), -1000000);
        due(x.level(0, -1, 0), -1000000);
        due(x.level(0, HIGH, 0), -1000000);
        due(x.level(0, 0, 3), -1000000);
        due(x.level(0, 0, -1), -1000000);
        due(x.level(1, 0, 0), -1000000);
        due(x.level(4, 0, 0), -1000000);
        due(x.level(-1, 0, 0), -1000000);
        due(x.set(5, 0, 4), 0);
        due(x.level(0, 0, 0), 3);
        due(x.level(0, 0, 1), 4);
    }

    private static void measure() {
        CutOffFilter x = halting(16);
        due(x.set(6, 0, 0), 4);
        // 3, 5, 4, -8, -7: 9 + 25 + 16 + 64 + 49
        due(x.measure(1, 1), 163);
        due(x.measure(1, 10), 1630);
        due(x.cause(0), -1002);
        due(x.set(6, 0, 4), 0);
        due(x.measure(1, 1), CutOffFilter.ENDED);
        causes(x, 3, 0, 8);
        // 9 * 50000000, 25 * 50000000, 16 * 50000000: the third SUM is 2500000000
        due(x.measure(1, 50000000), CutOffFilter.ENDED);
        causes(x, 2, 2, 800000000);
        due(x.measure(1, 100000000), CutOffFilter.ENDED);
        causes(x, 1, 1, 5);
        due(x.measure(1, 2000000000), CutOffFilter.ENDED);
        causes(x, 0, 1, 3);
        due(x.measure(1, 0), CutOffFilter.VOID);
        due(x.measure(1, -1), CutOffFilter.VOID);
        due(x.measure(1, 2000000001), CutOffFilter.VOID);
        due(x.measure(1, HIGH), CutOffFilter.VOID);
        due(x.measure(0, 1), CutOffFilter.VOID);
        due(x.measure(4, 1), CutOffFilter.VOID);
        due(x.measure(-1, 1), CutOffFilter.VOID);
        causes(x, 0, 1, 3);
        due(x.word(1), 0);
        fill(x, 2, 0, 1);
        due(x.measure(2, 2000000000), 2000000000);
        fill(x, 2, 0, 1, -1);
        due(x.measure(2, 1073741823), 1073741823);
        // outputs 1 and -1: 2147483646 is an int yet, 2147483648 is none
        due(x.set(2, 1, 0), 1);
        due(x.measure(2, 1073741823), 2147483646);
        due(x.measure(2, 1073741824), CutOffFilter.ENDED);
        causes(x, 1, 2, 1073741824);
        fill(x, 2, 0, -7);
        due(x.measure(2, 43826196), 2147483604);
        due(x.measure(2, 43826197), CutOffFilter.ENDED);
        causes(x, 0, 1, -7);
        // 8 * 8 * 33554432 is 2147483648
        fill(x, 2, 0, -8);
        due(x.measure(2, 33554431), 2147483584);
        due(x.measure(2, 33554432), CutOffFilter.ENDED);
        due(x.row(2, 0, 0), 1);
        due(x.measure(2, 1), 0);
    }

    private static void cause() {
        CutOffFilter x = next(17);
        due(x.cause(0), -1002);
        due(x.cause(2), -1002);
        due(x.cause(3), -1000000);
        due(x.cause(-1), -1000000);
        due(x.set(6, 0, 4), 0);
        due(x.step(-44), -1005);
        causes(x, 0, 0, -44);
        due(x.step(1), 1);
        due(x.step(200), -1001);
        causes(x, 0, 0, -44);
        fill(x, 0, 0, 1, 2, 30);
        due(x.run(0, 2), 1);
        causes(x, 0, 0, -44);
        due(x.go(0), 2);
        causes(x, 2, 0, 30);
        due(x.cause(HIGH), -1000000);
        due(x.cause(LOW), -1000000);
        due(x.image(), 10 * 16 + 9);
        due(x.back(), 10 * 16 + 9);
        causes(x, 2, 0, 30);
        due(read(x, "x7;x8"), -201);
        causes(x, 0, 0, 8);
    }

    private static void starts() {
        CutOffFilter x = next(18);
        due(x.starts(), 256);
        due(x.set(1, 0, 5), 4);
        due(x.starts(), 1024);
        due(x.set(0, 0, 1), 2);
        due(x.starts(), 32);
        due(x.set(1, 0, 2), 5);
        due(x.starts(), 4);
        due(x.set(0, 0, 3), 1);
        due(x.starts(), 64);
        due(x.set(1, 0, 3), 2);
        due(x.starts(), 512);
    }

    private static void code() {
        CutOffFilter x = next(19);
        due(x.code(), 8 * 16 + 8);
        due(x.past(1, -8), 0);
        due(x.code(), 8);
        due(x.past(2, -8), 0);
        due(x.code(), 0);
        due(x.past(1, 7), -8);
        due(x.code(), 240);
        due(x.set(1, 0, 3), 4);
        due(x.set(0, 0, 3), 2);
        due(x.code(), 4 * 64 + 4 * 8 + 4);
        due(x.past(3, 3), 0);
        due(x.past(2, -1), 0);
        due(x.code(), 4 * 64 + 3 * 8 + 7);
    }

    private static void nextCode() {
        CutOffFilter x = by(20, "c1,1;c2,-1;y1,2");
        // from 3, -2: 3 + 2 + 1 is 6
        due(x.next(11 * 16 + 6, 1), 14 * 16 + 11);
        // from 7, -8: 15, by WRAP -1
        due(x.next(15 * 16, 0), 7 * 16 + 15);
        due(x.set(6, 0, 3), 0);
        due(x.next(15 * 16, 0), 15 * 16 + 15);
        due(x.set(6, 0, 4), 3);
        due(x.next(15 * 16, 0), -5);
        due(x.next(0, 0), 8 * 16);
        due(x.next(-1, 0), -1);
        due(x.next(256, 0), -1);
        due(x.next(HIGH, 0), -1);
        due(x.next(LOW, 0), -1);
        due(x.next(0, 100), -1);
        due(x.next(0, -100), -1);
        due(x.next(255, 99), -5);
        due(x.word(1), 2);
        due(x.cause(0), -1002);
        x = by(20, "b3;n3;c3,1");
        // from 1, 2, 3: 3 + 0, and 3, 1, 2
        due(x.next(5 * 64 + 6 * 8 + 7, 0), 7 * 64 + 5 * 8 + 6);
    }

    /** One WORD of two bits, -2 .. 1 (codes 0 .. 3), y = c y1 + x, by HALT. */
    private static CutOffFilter small(int which, String more) {
        return by(which, "n1;b2;" + more);
    }

    private static void leads() {
        // by WRAP y = y1 + 1: -2, -1, 0, 1 and round again
        CutOffFilter x = small(21, "c1,1");
        due(x.leads(2, 1, 0), 0);
        due(x.leads(2, 1, 1), 4);
        due(x.leads(2, 1, 2), 0);
        // by ZERO: -2, -1, 0, 1, and 0 again: 0 and 1 go round
        due(x.set(6, 0, 2), 0);
        due(x.leads(0, 1, 0), 2);
        due(x.leads(1, 1, 0), 1);
        due(x.leads(2, 1, 0), 0);
        due(x.leads(0, 1, 1), 2);
        due(x.leads(3, 1, 1), 2);
        due(x.leads(0, 1, 2), 0);
        // by input 0 each is a cycle of its own
        due(x.leads(3, 0, 2), 3);
        due(x.leads(3, 0, 1), 1);
        due(x.set(6, 0, 4), 2);
        due(x.leads(0, 1, 0), -5);
        due(x.leads(0, 1, 1), -5);
        due(x.leads(3, 1, 2), -5);
        due(x.leads(3, 0, 2), 3);
        due(x.leads(4, 0, 0), -1);
        due(x.leads(-1, 0, 0), -1);
        due(x.leads(0, 100, 0), -1);
        due(x.leads(0, -100, 0), -1);
        due(x.leads(0, 1, 3), -1);
        due(x.leads(0, 1, -1), -1);
        // y = - y1 by CLIP: -2 to 1, -1 and 1 go round; 0 stays
        due(read(x, "o1;c1,-1"), 2);
        due(x.leads(0, 0, 0), 1);
        due(x.leads(0, 0, 1), 2);
        due(x.leads(0, 0, 2), 0);
        due(x.leads(2, 0, 2), 1);
        due(x.leads(2, 0, 1), 1);
    }

    private static void cycles() {
        CutOffFilter x = small(22, "c1,1");
        int[] round = {1, 0, 0, 2, 4};
        int[] zero = {1, 0, 2, 1, 2};
        int[] alone = {4, 0, 0, 2, 4};
        int[] stuck = {0, 4, 0, 99, 0};
        int[] clip = {2, 0, 1, 1, 3};
        for (int what = 0; what < 5; what++) {
            due(x.set(6, 0, 0), what == 0 ? 0 : 4);
            due(x.cycles(1, what), round[what]);
            due(x.cycles(0, what), alone[what]);
            due(x.set(6, 0, 2), 0);
            due(x.cycles(1, what), zero[what]);
            due(x.set(6, 0, 4), 2);
            due(x.cycles(1, what), stuck[what]);
            due(x.cycles(0, what), alone[what]);
        }
        due(read(x, "o1;c1,-1"), 2);
        for (int what = 0; what < 5; what++) {
            due(x.cycles(0, what), clip[what]);
        }
        // by ZERO and input -1: 0, -1, -2 go round, 1 comes to them
        due(read(x, "o2;c1,1"), 2);
        due(x.cycles(-1, 2), 1);
        due(x.cycles(-1, 3), 2);
        due(x.cycles(-1, 4), 3);
        due(read(x, "o1;c1,-1"), 2);
        // y = - y1 by HALT: only -2 is STUCK
        due(x.set(6, 0, 4), 1);
        due(x.cycles(0, 0), 2);
        due(x.cycles(0, 1), 1);
        due(x.cycles(0, 2), 0);
        due(x.cycles(0, 5), -1);
        due(x.cycles(0, -1), -1);
        due(x.cycles(100, 0), -1);
        due(x.cycles(-100, 0), -1);
        // y = - y1 - y2 by WRAP: the greatest TAIL of a filter that goes round is 0
        x = by(22, "c1,-1;c2,-1");
        due(x.cycles(0, 2), 0);
        due(x.cycles(0, 4), 256);
        // no COEFFICIENTS: from anywhere to 1, 1 within two STEPS
        x = next(22);
        due(x.cycles(1, 0), 1);
        due(x.cycles(1, 2), 2);
        due(x.cycles(1, 3), 1);
        due(x.cycles(1, 4), 1);
    }

    private static void cycle() {
        CutOffFilter x = small(23, "o1;c1,-1");
        int[] first = {1, 2, 1, 3};
        int[] second = {2, 1, 0, 1};
        for (int what = 0; what < 4; what++) {
            due(x.cycle(0, 0, what), first[what]);
            due(x.cycle(0, 1, what), second[what]);
            due(x.cycle(0, 2, what), -2);
            due(x.cycle(0, -1, what), -2);
        }
        due(x.cycle(0, HIGH, 0), -2);
        due(x.cycle(0, 0, 4), -1);
        due(x.cycle(0, 0, -1), -1);
        due(x.cycle(100, 0, 0), -1);
        due(x.cycle(-100, 7, 0), -1);
        // c1 1, ZERO, input 1: 0 and 1 go round, all four STARTS come to it
        x = small(23, "o2;c1,1");
        due(x.cycle(1, 0, 0), 2);
        due(x.cycle(1, 0, 1), 2);
        due(x.cycle(1, 0, 2), 1);
        due(x.cycle(1, 0, 3), 4);
        due(x.set(6, 0, 4), 2);
        due(x.cycle(1, 0, 0), -2);
        due(x.cycle(1, 0, 4), -1);
        // each WORD a cycle of its own: that of -2 has the CODE 0
        int[] alone = {0, 1, 2, 1};
        for (int what = 0; what < 4; what++) {
            due(x.cycle(0, 0, what), alone[what]);
        }
    }

    private static void onCycle() {
        due(small(24, "c1,1").onCycle(0, 0, 5), 0);
        due(small(24, "c1,1").onCycle(1, 0, 2), 2);
        due(small(24, "c1,1").onCycle(1, 0, 7), 3);
        CutOffFilter x = by(24, "b3;c1,-1;c2,-1");
        // 1, 0 to -1, 1 to 0, -1 to 1, 0; codes by 8 and with 4: 44, 29, 35
        due(x.leads(44, 0, 1), 3);
        int k = x.leads(44, 0, 2);
        due(x.onCycle(0, k, 0), 29);
        due(x.onCycle(0, k, 1), 35);
        due(x.onCycle(0, k, 2), 44);
        due(x.onCycle(0, k, 3), 29);
        due(x.onCycle(0, k, HIGH), 35);
        due(x.onCycle(0, k, -1), -1);
        due(x.onCycle(0, k, LOW), -1);
        due(x.onCycle(0, -1, 0), -2);
        due(x.onCycle(0, -1, -1), -1);
        due(x.onCycle(0, 1024, 0), -2);
        due(x.onCycle(0, x.cycles(0, 0), 0), -2);
        due(x.onCycle(100, 0, 0), -1);
        due(x.onCycle(-100, 0, 0), -1);
    }

    private static void reach() {
        // one WORD of two bits, y = x: by 0 only 0, by 1 -1 .. 1, by 2 all, and 2 is OVER
        CutOffFilter x = small(25, "c1,0");
        due(x.reach(0, 0), 1);
        due(x.reach(0, 1), 0);
        due(x.reach(1, 0), 3);
        due(x.reach(1, 1), 0);
        due(x.reach(2, 0), 4);
        due(x.reach(2, 1), 1);
        due(x.set(6, 0, 4), 0);
        due(x.reach(2, 0), 4);
        due(x.reach(2, 1), 1);
        // y = 2 x: 2 HALTS, -2 comes
        due(x.set(3, 0, 2), 1);
        due(x.reach(1, 0), 2);
        due(x.reach(1, 1), 1);
        // y = 3 x: nothing comes
        due(x.set(3, 0, 3), 2);
        due(x.reach(20, 0), 1);
        due(x.reach(20, 1), 1);
        due(x.reach(0, 1), 0);
        due(x.reach(21, 0), -1);
        due(x.reach(-1, 0), -1);
        due(x.reach(HIGH, 0), -1);
        due(x.reach(LOW, 0), -1);
        due(x.reach(0, 2), -1);
        due(x.reach(0, -1), -1);
        // THE PAST as it is plays no part
        x = by(25, "c1,1;o4;y1,7");
        due(x.reach(0, 0), 1);
        due(x.reach(0, 1), 0);
        due(x.reach(1, 1), 1);
        due(x.word(1), 7);
        // y = x with two WORDS: 3 by 3 pasts
        x = next(25);
        due(x.reach(1, 0), 9);
        due(x.reach(7, 0), 225);
        due(x.reach(7, 1), 0);
        due(x.reach(20, 0), 256);
        due(x.reach(20, 1), 1);
    }

    private static void scale() {
        CutOffFilter x = next(26);
        due(x.scale(0), 0);
        due(x.scale(7), 0);
        due(x.scale(8), 1);
        due(x.scale(15), 1);
        due(x.scale(16), 2);
        due(x.scale(20), 2);
        due(x.set(3, 0, 99), 1);
        due(x.scale(1), 1);
        due(x.scale(15), 4);
        due(x.scale(20), 5);
        due(x.scale(21), -1);
        due(x.scale(-1), -1);
        due(x.scale(HIGH), -1);
        // y = y1 + x leaves any bound but 0
        due(read(x, "c1,1;i1"), 2);
        due(x.scale(20), 5);
        due(x.scale(0), 0);
        due(x.set(6, 0, 4), 0);
        due(x.scale(3), 2);
    }

    private static void quietest() {
        // y = y1 / 2: by DOWN -1 stays, by CUT nothing does, by input 0
        CutOffFilter x = by(27, "n1;c1,1;s1");
        due(x.cycles(0, 3), 1);
        due(x.quietest(0, 0), 1);
        due(x.quietest(0, 1), 0);
        due(x.of(5, 0), 0);
        due(x.quietest(100, 0), -1);
        due(x.quietest(-100, 0), -1);
        due(x.quietest(0, 2), -1);
        due(x.quietest(0, -1), -1);
        // y = - y1 / 2: by DOWN 1 to -1 to 0 and 0 stays
        due(x.set(2, 1, -1), 1);
        due(x.quietest(0, 0), 0);
        due(x.quietest(0, 1), 0);
        // without a shift all are alike: the first
        due(x.set(4, 0, 0), 1);
        due(x.quietest(0, 0), 0);
        due(x.quietest(0, 1), 8);
        // no CYCLES by any
        due(read(x, "o4;i99"), 2);
        due(x.quietest(99, 0), 0);
        due(x.quietest(99, 1), 99);
        due(x.cause(0), -1002);
    }

    private static void tamed() {
        // one WORD, y = c y1 / 4 by DOWN; by 3 / 4: -8, -6, -5, -4, -3, -3; so -3 stays; by 1 / 4 -1 stays;
        // by 0 nothing is left; by -1: -8, 2, -1, 0 (by -1 / 4 up is DOWN of 1 / 4)
        CutOffFilter x = by(28, "n1;s2;o1");
        due(x.tamed(0, 99), 99);
        due(x.tamed(0, 8), 99);
        due(x.tamed(0, 3), 3);
        due(x.tamed(0, 1), 2);
        due(x.tamed(0, 0), 0);
        due(x.of(2, 1), 0);
        due(x.tamed(0, -1), -1001);
        due(x.tamed(0, 100), -1001);
        due(x.tamed(100, 0), -1001);
        due(x.tamed(-100, 0), -1001);
        due(x.tamed(LOW, HIGH), -1001);
        // by HALT with no shift: 1 is the greatest by which no START is STUCK
        due(read(x, "s0;o4"), 2);
        due(x.tamed(0, 99), 1);
        due(x.tamed(0, 7), 0);
        due(x.tamed(0, 8), 1);
        due(x.tamed(1, 99), 0);
        due(x.tamed(1, 0), -1002);
        due(x.tamed(1, 1), 0);
        due(x.tamed(99, 99), -1002);
        // what was tried last, -99 by input 2, does not stand in the way of what is asked then: all go round by WRAP
        x = by(28, "n1;b5;c1,-99");
        for (int times = 0; times < 2; times++) {
            due(x.tamed(2, 0), -1002);
            due(x.cycles(2, 4), 32);
            due(x.cycles(2, 2), 0);
            due(x.leads(31, 2, 0), 0);
        }
        // the least number of all: by STAY only -16 by -99, by 4 AWAY 396, less 410, is no longer OVER
        x = by(28, "n1;b5;i41;s2;r4;o3;p1");
        due(x.tamed(-40, 15), -99);
        due(x.tamed(-40, 16), 99);
        due(x.tamed(-40, 14), -1002);
    }

    private static void lost() {
        // two bits, one WORD, y = y1 / 2 by DOWN: 0, 1, 0, 1 by 2 and by 4 STARTS
        CutOffFilter x = small(29, "c1,1;s1");
        due(x.lost(0, 0), 1);
        due(x.lost(0, 1), 4);
        // y = (y1 + 99) / 2 by HALT is always too much, but counted
        due(x.set(6, 0, 4), 0);
        due(x.lost(99, 0), 1);
        due(x.lost(99, 1), 4);
        // by AWAY, 3 y1 / 4: LOSSES of -6, -3, 0, 3: -2, -1, 0, 1
        due(read(x, "c1,3;s2;r4"), 3);
        due(x.lost(0, 0), 1);
        due(x.lost(0, 1), 4);
        due(x.set(4, 0, 0), 2);
        due(x.lost(0, 0), 0);
        due(x.lost(0, 1), 1);
        due(x.lost(0, 2), Long.MIN_VALUE);
        due(x.lost(0, -1), Long.MIN_VALUE);
        due(x.lost(100, 0), Long.MIN_VALUE);
        due(x.lost(-100, 1), Long.MIN_VALUE);
        // 1 / 64 from each of 1024 STARTS
        x = by(29, "b5;s6");
        due(x.lost(1, 0), 1);
        due(x.lost(1, 1), 64);
        due(x.lost(-1, 0), 63);
        due(x.lost(-1, 1), 64);
    }

    private static void fits() {
        // 3, 5, 7 by 2: DOWN, CUT 1, 2, 3; NEAR, AWAY 2, 3, 4; EVEN 2, 2, 4
        CutOffFilter x = by(30, "s1");
        fill(x, 0, 0, 3, 5, 7);
        fill(x, 1, 2, 1, 2, 3);
        due(x.fits(0, 1, 0), 1 + 2);
        due(x.fits(0, 1, 2), 2);
        due(x.fits(0, 1, 1), 31);
        due(x.fits(0, 1, 3), 3);
        fill(x, 1, 1, 2, 2);
        due(x.fits(0, 1, 0), 8);
        fill(x, 1, 1, 2, 3, 4);
        due(x.fits(0, 1, 0), 4 + 16);
        due(x.fits(0, 1, 3), 0);
        due(x.row(2, 0, 0), 1);
        due(x.fits(0, 2, 0), 31);
        due(x.fits(0, 2, 1), 31);
        due(x.fits(0, 2, 2), 127);
        due(x.fits(0, 2, 3), 3);
        due(x.fits(0, 2, 4), 199);
        due(x.fits(0, 2, 5), -99);
        due(x.fits(2, 0, 0), 0);
        due(x.fits(2, 2, 4), 199);
        // 3 / 2 is 1, (5 + c) / 2 is 4: c 3 or 4, by WRAP those that differ from them by a multiple of 32, too
        fill(x, 1, 0, 1, 4);
        due(x.fits(0, 1, 4), 13);
        due(x.fits(0, 1, 5), -93);
        due(x.set(6, 0, 1), 0);
        due(x.fits(0, 1, 4), 2);
        due(x.fits(0, 1, 5), 3);
        due(x.set(6, 0, 0), 1);
        fill(x, 1, 0, 0);
        due(x.fits(0, 1, 4), 0);
        due(x.fits(0, 1, 5), -1002);
        // a RUN that HALTS is shorter
        due(read(x, "s0"), 1);
        fill(x, 0, 0, 7, 8);
        fill(x, 1, 0, 7);
        due(x.fits(0, 1, 1), 31);
        fill(x, 1, 0, 7, -8);
        due(x.fits(0, 1, 1), 1);
        fill(x, 1, 0, 7, 7);
        due(x.fits(0, 1, 1), 2 + 8);
        fill(x, 1, 0, 7, 0);
        due(x.fits(0, 1, 1), 4);
        // a number of the ROW is not narrowed
        fill(x, 1, 2, 4294967296L + 7);
        due(x.fits(0, 1, 1), 0);
        due(x.of(6, 0), 0);
        due(x.of(2, 1), 0);
        due(x.fits(0, 3, 0), -1011);
        due(x.fits(3, 0, 0), -1011);
        due(x.fits(4, 0, 0), -1001);
        due(x.fits(0, -1, 0), -1001);
        due(x.fits(3, 3, 6), -1001);
        due(x.fits(0, 1, -1), -1001);
        // THE PAST as it is
        x = by(30, "c1,1;y1,2");
        fill(x, 0, 0, 0);
        fill(x, 1, 0, 6);
        // 2 c is 6, or differs from it by a multiple of 16
        due(x.fits(0, 1, 4), 25);
        due(x.fits(0, 1, 5), -93);
    }

    private static void judge() {
        CutOffFilter x = halting(31);
        fill(x, 0, 2, 3, 5, 4);
        due(x.judge(1, 0), -2);
        fill(x, 0, 2, 3, 5, 4, 0);
        due(x.judge(1, 0), 3);
        fill(x, 0, 2, 3, 5, 5, 0);
        due(x.judge(1, 0), 2);
        fill(x, 0, 2, 4294967296L + 3);
        due(x.judge(1, 0), 0);
        fill(x, 0, 0, 3, 5);
        due(x.judge(1, 0), 102);
        due(x.row(0, 0, 0), 1);
        due(x.judge(1, 0), 100);
        due(x.judge(0, 1), 0);
        due(x.judge(0, 0), -2);
        due(x.judge(2, 0), -11);
        due(x.judge(0, 2), -11);
        due(x.judge(4, 2), -1);
        due(x.judge(2, 4), -1);
        due(x.judge(-1, 0), -1);
        due(x.row(3, 0, 40), 1);
        due(x.row(2, 0, 39), 1);
        due(x.judge(3, 2), 139);
        due(x.judge(2, 3), 39);
        due(x.judge(3, 3), -2);
    }

    private static void feed() {
        CutOffFilter x = next(32);
        due(x.feed(31), -1);
        due(x.feed(127), -1);
        due(x.feed(-1), -1);
        due(x.feed(LOW), -1);
        due(x.feed(HIGH), -1);
        due(x.feed(256 + 65), -1);
        due(x.count(2), 0);
        due(x.feed(32), 1);
        for (int i = 2; i <= 80; i++) {
            due(x.feed(126), i);
        }
        due(x.feed(65), -3);
        due(x.feed(31), -1);
        due(x.count(2), 80);
    }

    private static void wipe() {
        CutOffFilter x = next(33);
        due(x.wipe(), 0);
        due(x.feed('z'), 1);
        due(x.feed('z'), 2);
        due(x.wipe(), 2);
        due(x.count(2), 0);
        due(x.wipe(), 0);
        due(x.feed('s'), 1);
        due(x.feed('1'), 2);
        due(x.read(), 1);
        due(x.wipe(), 0);
    }

    private static void read() {
        CutOffFilter x = next(34);
        String[] faulty = {"", "z", " n1", "n", "n;", "n-", "n--", "n1;", "n1;;", "n1 ", "n123", "n1,2", "c1", "c1;", "c1,", "c1,-", "c1,23,",
            "c1,234", "y", "y1;2", "y-1,-2;n1;q", "x5x", "N1", "n+1", "n1;s007", "c-", "c12,-12", "c123", "c-12-", "x,"};
        int[] place = {0, 0, 0, 1, 1, 2, 2, 3, 3, 2, 3, 2, 2, 2, 3, 4, 5, 5, 1, 2, 10, 2, 0, 1, 6, 2, -1, 3, 4, 1};
        for (int i = 0; i < faulty.length; i++) {
            due(read(x, faulty[i]), place[i] < 0 ? -200 : -100 - place[i]);
            due(x.count(2), 0);
        }
        for (int what = 0; what < 2; what++) {
            due(x.count(what), 0);
        }
        due(x.of(0, 0), 2);
        due(read(x, "n1;b5;c1,-99;c2,09;c3,-0;i-5;s06;r1;o2;p1;y1,-16;x0"), 12);
        int[] numbers = {1, 5, -99, -5, 6, 1, 2, 1};
        for (int what = 0; what < 8; what++) {
            due(x.of(what, 1), numbers[what]);
        }
        due(x.of(2, 2), 9);
        due(x.of(2, 3), 0);
        // -99 * -16 by 64 is 24.75, by CUT 24: OVER, by ZERO 0
        due(x.word(1), 0);
        due(x.count(4), 1);
        due(x.count(0), 9);
        // what is refused: those ahead are done, those behind are not
        due(read(x, "s2;s7;s3"), -201);
        due(x.of(4, 0), 2);
        due(read(x, "n0;s3"), -200);
        due(read(x, "b2;n3;b4;s1"), -202);
        due(x.of(1, 0), 2);
        due(x.of(0, 0), 3);
        due(x.of(4, 0), 2);
        due(read(x, "y4,0"), -200);
        due(read(x, "y1,1;y1,2"), -201);
        due(x.word(1), 1);
        due(read(x, "c0,1"), -200);
        due(read(x, "c4,1"), -200);
        due(read(x, "r5"), -200);
        due(read(x, "r-1"), -200);
        due(read(x, "o5"), -200);
        due(read(x, "p2"), -200);
        due(read(x, "i-99;o4;x99;i1"), -202);
        due(x.of(3, 0), -99);
        causes(x, 0, 0, x.would(99, 2));
        // a FAULT behind: nothing is done
        due(read(x, "i1;s3;q"), -106);
        due(x.of(3, 0), -99);
        // the longest text
        x = new CutOffFilter();
        StringBuilder longest = new StringBuilder("x1");
        for (int i = 0; i < 26; i++) {
            longest.append(";x1");
        }
        due(longest.length(), 80);
        due(read(x, longest.toString()), 27);
        due(x.count(4), 27);
        due(read(x, longest.substring(0, 78) + "-1"), -178);
        due(read(x, longest.substring(0, 79) + "-"), -180);
    }

    private static void row() {
        CutOffFilter x = next(35);
        for (int sort = 0; sort < 3; sort++) {
            due(x.row(sort, sort, 40), 1);
            due(x.get(sort, 39), 0);
            due(x.get(sort, 40), Long.MIN_VALUE);
            due(x.put(sort, 0, 5), 1);
            due(x.row(sort, sort, 2), 1);
            due(x.get(sort, 0), 0);
            due(x.get(sort, 2), Long.MIN_VALUE);
        }
        due(x.count(3), 3);
        due(x.row(3, 0, 0), 1);
        due(x.count(3), 4);
        due(x.row(3, -1, 99), 1);
        due(x.row(2, -1, -99), 1);
        due(x.count(3), 2);
        due(x.row(0, 0, 41), -1);
        due(x.row(0, 0, HIGH), -1);
        due(x.row(0, 0, -1), -14);
        due(x.row(0, 0, LOW), -14);
        due(x.row(0, 3, -1), -1);
        due(x.row(0, -2, 1), -1);
        due(x.row(4, 0, -1), -1);
        due(x.row(-1, -1, 1), -1);
        due(x.get(0, 1), 0);
        // what stood there is gone, also behind a size that grows again
        due(x.put(0, 1, 9), 1);
        due(x.row(0, 0, 1), 1);
        due(x.row(0, 0, 2), 1);
        due(x.get(0, 1), 0);
    }

    private static void put() {
        CutOffFilter x = next(36);
        long[] told = {127, 128, 255, 256, -129, 2147483647L, 2147483648L, -2147483649L, Long.MAX_VALUE, Long.MIN_VALUE + 5};
        long[] bytes = {127, -128, -1, 0, 127, -1, 0, -1, -1, 5};
        long[] ints = {127, 128, 255, 256, -129, 2147483647L, -2147483648L, 2147483647L, -1, 5};
        for (int sort = 0; sort < 3; sort++) {
            due(x.row(1, sort, 3), 1);
            for (int i = 0; i < told.length; i++) {
                due(x.put(1, 2, told[i]), 1);
                due(x.get(1, 2), sort == 0 ? bytes[i] : sort == 1 ? ints[i] : told[i]);
                due(x.get(1, 1), 0);
            }
        }
        due(x.put(1, 3, 1), -13);
        due(x.put(1, -1, 1), -13);
        due(x.put(1, LOW, 1), -13);
        due(x.put(1, HIGH, 1), -13);
        due(x.put(0, 9, 1), -11);
        due(x.put(4, 0, 1), -1);
        due(x.put(-1, 0, 1), -1);
    }

    private static void get() {
        CutOffFilter x = next(37);
        fill(x, 2, 2, Long.MAX_VALUE, -5);
        due(x.get(2, 0), Long.MAX_VALUE);
        due(x.get(2, 1), -5);
        due(x.get(2, 2), Long.MIN_VALUE);
        due(x.get(2, -1), Long.MIN_VALUE);
        due(x.get(2, HIGH), Long.MIN_VALUE);
        due(x.get(0, 0), Long.MIN_VALUE);
        due(x.get(4, 0), Long.MIN_VALUE);
        due(x.get(-1, 0), Long.MIN_VALUE);
    }

    private static void film() {
        CutOffFilter x = halting(38);
        due(x.film(0, 2, 1), 3);
        due(x.get(0, 0), 3);
        due(x.get(0, 2), 4);
        due(x.get(0, 3), Long.MIN_VALUE);
        due(x.get(1, 0), 3);
        due(x.get(1, 1), 2);
        due(x.copy(0, 0, 1, 0, 1), -12);
        due(x.film(1, 0, 1), 3);
        due(x.get(1, 1), 5);
        due(x.get(1, 3), Long.MIN_VALUE);
        due(x.put(1, 0, 128), 1);
        due(x.get(1, 0), -128);
        // -99, which is less than -8, HALTS at once: none
        due(x.film(3, 1, 1), 0);
        due(x.count(3), 3);
        due(x.get(3, 0), Long.MIN_VALUE);
        due(x.word(1), 0);
        due(x.film(0, 0, 2), -11);
        due(x.film(2, 3, 2), -1);
        due(x.film(2, -1, 1), -1);
        due(x.film(4, 0, 1), -1);
        due(x.film(-1, 0, 1), -1);
        due(x.film(0, 0, 4), -1);
        due(x.film(0, 0, -1), -1);
        due(x.get(0, 0), 3);
    }

    private static void copy() {
        CutOffFilter x = next(39);
        fill(x, 0, 1, 1, 2, 3, 4);
        fill(x, 1, 1, 0, 0, 0);
        due(x.copy(0, 1, 1, 0, 3), 3);
        due(x.get(1, 0), 2);
        due(x.get(1, 2), 4);
        due(x.copy(0, 0, 0, 1, 3), 3);
        due(x.get(0, 0), 1);
        due(x.get(0, 1), 1);
        due(x.get(0, 2), 2);
        due(x.get(0, 3), 3);
        due(x.copy(0, 1, 0, 0, 3), 3);
        due(x.get(0, 0), 1);
        due(x.get(0, 1), 2);
        due(x.get(0, 2), 3);
        due(x.get(0, 3), 3);
        due(x.copy(0, 0, 0, 0, 4), 4);
        due(x.copy(1, 0, 0, 0, 3), 3);
        due(x.get(0, 0), 2);
        due(x.get(0, 2), 4);
        due(x.get(0, 3), 3);
        due(x.copy(0, 4, 1, 3, 0), 0);
        due(x.copy(0, 5, 1, 0, 0), -13);
        due(x.copy(0, 0, 1, 4, 0), -13);
        due(x.copy(0, 0, 1, 0, 4), -13);
        due(x.copy(1, 0, 0, 2, 3), -13);
        due(x.copy(0, 2, 1, 0, 3), -13);
        due(x.copy(0, -1, 1, 0, 1), -13);
        due(x.copy(0, 0, 1, -1, 1), -13);
        due(x.copy(0, 0, 1, 0, -1), -13);
        due(x.copy(0, HIGH, 1, 0, 1), -13);
        due(x.copy(0, HIGH, 1, HIGH, HIGH), -13);
        due(x.copy(0, 1, 1, HIGH, 1), -13);
        due(x.copy(0, 0, 1, 0, LOW), -13);
        for (int sort = 0; sort < 3; sort += 2) {
            due(x.row(2, sort, 2), 1);
            due(x.row(3, sort, 2), 1);
            due(x.put(2, 1, 7), 1);
            due(x.copy(2, 1, 3, 0, 1), 1);
            due(x.get(3, 0), 7);
        }
        due(x.row(3, -1, 0), 1);
        due(x.row(2, 2, 3), 1);
        due(x.copy(0, 0, 2, 0, -1), -12);
        due(x.copy(2, 0, 0, 0, 1), -12);
        due(x.copy(0, 0, 3, 0, 1), -11);
        due(x.copy(3, 0, 0, 0, 1), -11);
        due(x.copy(3, 0, 4, 0, 1), -1);
        due(x.copy(-1, 0, 3, 0, 1), -1);
        due(x.copy(4, 0, 0, 0, 1), -1);
        due(x.get(2, 0), 0);
    }

    private static void act() {
        CutOffFilter x = next(40);
        // by hand, for x 7: lifts, lowers, tells
        int[][] due = {{7, 14, 14}, {8, 16 ^ 5, (16 ^ 5) - 1}, {-9, -18, -20}, {-30, -60, -69}, {11, (22 ^ 5) + 6, (22 ^ 5) + 6 - 4}};
        for (int rounding = 0; rounding < 5; rounding++) {
            for (int act = 0; act < 3; act++) {
                due(x.act(rounding, act, 7), due[rounding][act]);
            }
        }
        due(x.act(1, 0, HIGH), LOW);
        due(x.act(0, 1, HIGH), -2);
        due(x.act(2, 0, LOW), -(LOW + 2));
        due(x.act(3, 0, 1431655765), -(1431655765 + 3) * 3);
        due(x.trace(0), 41);
        due(x.act(5, 0, 1), 0);
        due(x.act(-1, 0, 1), 0);
        due(x.act(0, 3, 1), 0);
        due(x.act(0, -1, 1), 0);
        due(x.act(HIGH, LOW, 1), 0);
        due(x.trace(0), 41);
        due(x.trace(2), 10);
    }

    private static void trace() {
        CutOffFilter x = next(41);
        due(x.trace(0), -2);
        int[][][] due = {
            {{10}, {11, 10}, {12, 11, 10}},
            {{10}, {20, 11, 10}, {12, 20, 11, 10}},
            {{30, 10}, {11, 30, 10}, {12, 11, 30, 10}},
            {{41, 30, 10}, {11, 41, 30, 10}, {40, 12, 11, 41, 30, 10}},
            {{10}, {50, 20, 11, 10, 10}, {12, 50, 20, 11, 10, 10}}};
        for (int rounding = 0; rounding < 5; rounding++) {
            for (int act = 0; act < 3; act++) {
                x.act(rounding, act, 3);
                for (int i = 0; i < due[rounding][act].length; i++) {
                    due(x.trace(i), due[rounding][act][i]);
                }
                due(x.trace(due[rounding][act].length), -2);
                due(x.trace(-1), -2);
                due(x.trace(24), -2);
                due(x.trace(HIGH), -2);
                due(x.trace(LOW), -2);
            }
        }
    }

    private static void isUnder() {
        CutOffFilter x = next(42);
        int[][] due = {{1, 0, 0, 0, 0}, {1, 1, 0, 0, 0}, {1, 0, 1, 0, 0}, {1, 1, 0, 1, 0}, {1, 0, 0, 0, 1}};
        for (int overflow = 0; overflow < 5; overflow++) {
            for (int k = 0; k < 5; k++) {
                due(x.isUnder(overflow, k), due[overflow][k]);
            }
            due(x.isUnder(overflow, 5), -1);
            due(x.isUnder(overflow, -1), -1);
            due(x.isUnder(5, overflow), -1);
            due(x.isUnder(-1, overflow), -1);
        }
        due(x.isUnder(HIGH, LOW), -1);
    }

    private static void undo() {
        CutOffFilter x = next(43);
        due(x.undo(), -5);
        due(x.set(4, 0, 3), 0);
        due(x.set(4, 0, 3), 3);
        due(x.count(0), 1);
        due(x.set(4, 0, 7), -1001);
        due(x.set(0, 0, 3), -1005);
        due(read(x, "c2,5;c2,5;x1;y1,3;i2"), 5);
        due(x.count(0), 3);
        due(x.undo(), 2);
        due(x.of(3, 0), 1);
        due(x.undo(), 1);
        due(x.of(2, 2), 0);
        due(x.word(1), 3);
        due(x.undo(), 0);
        due(x.of(4, 0), 0);
        due(x.undo(), -5);
        due(x.word(1), 3);
        due(x.set(1, 0, 3), 4);
        due(x.past(1, 2), 0);
        due(x.past(2, 1), 0);
        due(x.undo(), 0);
        due(x.of(1, 0), 4);
        due(x.word(1), 0);
        due(x.word(2), 0);
        // twelve at most: of fourteen the first two are none any more
        for (int v = 1; v <= 14; v++) {
            due(x.set(2, 1, v), v - 1);
        }
        due(x.count(0), 12);
        for (int left = 11; left >= 0; left--) {
            due(x.undo(), left);
            due(x.of(2, 1), left + 2);
        }
        due(x.undo(), -5);
        due(x.of(2, 1), 2);
        due(x.count(1), 12);
    }

    private static void redo() {
        CutOffFilter x = next(44);
        due(x.redo(), -5);
        due(x.set(0, 0, 1), 2);
        due(x.set(1, 0, 5), 4);
        due(x.set(3, 0, 9), 1);
        due(x.redo(), -5);
        due(x.undo(), 2);
        due(x.undo(), 1);
        due(x.undo(), 0);
        due(x.past(2, 3), 0);
        due(x.redo(), 2);
        due(x.of(0, 0), 1);
        due(x.of(1, 0), 4);
        due(x.word(1), 0);
        due(x.word(2), -1001);
        due(x.past(1, 3), 0);
        due(x.redo(), 1);
        due(x.of(1, 0), 5);
        due(x.word(1), 0);
        due(x.past(1, 3), 0);
        due(x.redo(), 0);
        due(x.of(3, 0), 9);
        due(x.word(1), 3);
        due(x.redo(), -5);
        due(x.count(0), 3);
        // telling what is so already, and what is refused, leaves what can be done again; another change does not
        due(x.undo(), 2);
        due(x.set(3, 0, 1), 1);
        due(x.set(3, 0, 100), -1001);
        due(x.past(1, 1), 3);
        due(x.count(1), 1);
        due(x.set(5, 0, 1), 0);
        due(x.count(1), 0);
        due(x.redo(), -5);
        due(x.of(3, 0), 1);
        due(x.count(0), 3);
        for (int v = 1; v <= 12; v++) {
            due(x.set(2, 1, v), v - 1);
        }
        for (int left = 11; left >= 0; left--) {
            due(x.undo(), left);
        }
        for (int left = 11; left >= 0; left--) {
            due(x.redo(), left);
            due(x.of(2, 1), 12 - left);
        }
        due(x.redo(), -5);
    }

    private static void image() {
        CutOffFilter x = by(45, "y1,1;y2,-2;s3");
        due(x.image(), 9 * 16 + 6);
        due(x.alike(), 1);
        due(x.count(0), 1);
        due(x.past(1, 2), 1);
        due(x.image(), 10 * 16 + 6);
        due(x.past(1, 5), 2);
        due(x.back(), 10 * 16 + 6);
    }

    private static void alike() {
        CutOffFilter x = next(46);
        due(x.alike(), -5);
        due(x.image(), 136);
        due(x.alike(), 1);
        int[] other = {1, 3, 5, 5, 5, 4, 1, 1};
        for (int what = 0; what < 8; what++) {
            due(x.set(what, 1, other[what]) < -1000 ? 1 : 0, 0);
            due(x.alike(), 0);
            due(x.undo(), 0);
            due(x.alike(), 1);
        }
        for (int k = 2; k <= 3; k++) {
            due(x.set(2, k, 1), 0);
            due(x.alike(), 0);
            due(x.undo(), 0);
            due(x.alike(), 1);
        }
        for (int k = 1; k <= 2; k++) {
            due(x.past(k, 1), 0);
            due(x.alike(), 0);
            due(x.past(k, 0), 1);
            due(x.alike(), 1);
        }
        due(x.row(0, 0, 3), 1);
        due(x.feed(65), 1);
        due(x.alike(), 1);
        due(x.step(1), 1);
        due(x.alike(), 0);
        // a third WORD is gone with ORDER 3
        x = by(46, "b3;n3;y3,2;n2");
        due(x.image(), 36);
        due(read(x, "n3;y3,1;n2"), 3);
        due(x.alike(), 1);
    }

    private static void back() {
        CutOffFilter x = next(47);
        due(x.set(4, 0, 2), 0);
        due(x.back(), -5);
        due(x.count(0), 1);
        due(read(x, "c1,4;c3,7;y1,1;y2,2"), 4);
        due(x.image(), 9 * 16 + 10);
        due(read(x, "n1;b5;c1,5;c2,6;c3,8;i3;s1;r2;o3;p1;x1"), 11);
        due(x.undo(), 11);
        due(x.row(1, 0, 2), 1);
        due(x.feed(65), 1);
        due(x.act(0, 0, 1), 1);
        due(x.back(), 9 * 16 + 10);
        int[] numbers = {2, 4, 4, 1, 2, 0, 0, 0};
        for (int what = 0; what < 8; what++) {
            due(x.of(what, 1), numbers[what]);
        }
        due(x.of(2, 2), 0);
        due(x.of(2, 3), 7);
        due(x.word(1), 1);
        due(x.word(2), 2);
        due(x.count(0), 0);
        due(x.count(1), 0);
        due(x.count(2), 1);
        due(x.count(3), 1);
        due(x.count(4), 1);
        due(x.trace(0), 10);
        due(x.undo(), -5);
        due(x.redo(), -5);
        due(x.alike(), 1);
        // what comes behind does not change THE IMAGE
        due(x.past(1, 5), 1);
        due(x.set(2, 1, 9), 4);
        due(x.back(), 9 * 16 + 10);
        due(x.of(2, 1), 4);
    }

    private static void count() {
        CutOffFilter x = next(48);
        for (int what = 0; what < 5; what++) {
            due(x.count(what), 0);
        }
        due(x.count(5), -1);
        due(x.count(-1), -1);
        due(x.count(HIGH), -1);
        due(x.count(LOW), -1);
        due(x.set(6, 0, 4), 0);
        due(x.set(3, 0, 2), 1);
        due(x.undo(), 1);
        due(x.count(0), 1);
        due(x.count(1), 1);
        due(x.redo(), 0);
        due(x.step(3), 6);
        due(x.step(4), -1005);
        due(x.step(100), -1001);
        due(x.would(1, 0), 2);
        due(read(x, "x1;x2;x9"), -202);
        due(x.count(4), 3);
        fill(x, 0, 0, 1, 1, 1, 50, 1);
        due(x.run(0, 0), 3);
        due(x.count(4), 3);
        due(x.go(0), 3);
        due(x.count(4), 6);
        due(x.count(3), 1);
        due(x.feed(65), 1);
        due(x.count(2), 1);
        due(x.image() > 0 ? 1 : 0, 1);
        due(x.step(1), 2);
        due(x.back() > 0 ? 1 : 0, 1);
        due(x.count(4), 7);
        due(x.count(0), 0);
    }

    public static void main(String[] arguments) {
        newObject(); set(); of(); past(); word(); step(); would(); rounded(); bounded();
        output(); run(); go(); noise(); levels(); level(); measure(); cause();
        starts(); code(); nextCode(); leads(); cycles(); cycle(); onCycle();
        reach(); scale(); quietest(); tamed(); lost(); fits(); judge();
        feed(); wipe(); read(); row(); put(); get(); film(); copy();
        act(); trace(); isUnder(); undo(); redo(); image(); alike(); back(); count();
        System.out.println(wrong == 0 ? "all 48 promises answer as due" : wrong + " answers are not as due");
        if (wrong != 0) {
            System.exit(1);
        }
    }
}
