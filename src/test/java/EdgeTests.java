import java.lang.reflect.Method;
import java.util.ArrayList;
import java.util.Arrays;
import java.util.List;
import java.util.Set;
import java.util.TreeMap;
import java.util.TreeSet;
import java.util.function.Consumer;

/**
 * Each sentence of the document that names a boundary case (too small, too large, empty, full, a wrap-around, a refused
 * call) has a test of its own here: a method whose name begins with p and the promise's number. Answers are worked out
 * by hand, from the words alone, and told as numbers, so that a wrong constant of the class is seen, too.
 */
public final class EdgeTests {
    private static final int LOW = Integer.MIN_VALUE, HIGH = Integer.MAX_VALUE;
    private static final int BAD = -1, NOT = -2, FULL = -3, STATE = -5, NO = -1001, NONE = -1002, HALTED = -1005;
    private static final int MISSING = -11, UNLIKE = -12, OUTSIDE = -13, TOO_SMALL = -14, MISSED = -1011, NOTHING = -1000000;
    private static final long VOID = Long.MIN_VALUE, ENDED = Long.MIN_VALUE + 1;
    /** Numbers that lie beyond every range of the document. */
    private static final int[] ENDS = {LOW, LOW + 1, HIGH - 1, HIGH};
    /** Each ORDER with each BITS that it can have. */
    private static final int[][] SHAPES = {{1, 2}, {1, 3}, {1, 4}, {1, 5}, {2, 2}, {2, 3}, {2, 4}, {2, 5}, {3, 2}, {3, 3}};

    private static int wrong = 0;
    private static String test = "";
    private static int number = 0;

    private static void due(long got, long want) {
        number++;
        if (got != want) {
            wrong++;
            System.out.println(test + ", due() number " + number + ": answered " + got + ", due is " + want);
        }
    }

    // ---- how objects are made

    private static int read(CutOffFilter x, String text) {
        for (int i = 0; i < text.length(); i++) {
            due(x.feed(text.charAt(i)), i + 1);
        }
        return x.read();
    }

    private static CutOffFilter by(String text) {
        CutOffFilter x = new CutOffFilter();
        due(read(x, text), text.split(";").length);
        return x;
    }

    private static CutOffFilter shape(int order, int bits) {
        return by("b2;n" + order + ";b" + bits);
    }

    private static void fill(CutOffFilter x, int row, int sort, long... numbers) {
        due(x.row(row, sort, numbers.length), 1);
        for (int i = 0; i < numbers.length; i++) {
            due(x.put(row, i, numbers[i]), 1);
        }
    }

    /** 40 numbers: all are the first one told, but the last. */
    private static void fill40(CutOffFilter x, int row, int sort, long all, long last) {
        long[] numbers = new long[40];
        Arrays.fill(numbers, all);
        numbers[39] = last;
        fill(x, row, sort, numbers);
    }

    private static void outputs(CutOffFilter x, int row, int... due) {
        for (int k = 0; k < due.length; k++) {
            due(x.output(row, k), due[k]);
        }
        due(x.output(row, due.length), NONE);
    }

    private static void causes(CutOffFilter x, int step, int what, int number) {
        due(x.cause(0), step);
        due(x.cause(1), what);
        due(x.cause(2), number);
    }

    private static void words(CutOffFilter x, int... due) {
        for (int k = 1; k <= due.length; k++) {
            due(x.word(k), due[k - 1]);
        }
        due(x.word(due.length + 1), NO);
    }

    /** y = x + y1, by HALT: outputs 3, 5, 4, and V 8 is no WORD of 4 bits. */
    private static CutOffFilter halting() {
        CutOffFilter x = by("c1,1;o4");
        fill(x, 1, 1, 3, 2, -1, 4, 1);
        return x;
    }

    // ---- that a call changes nothing

    /**
     * Nothing of it is as at first: 5 and -6 are THE PAST, 6 CHANGES can be undone, 1 done again (PLACE to 1), THE IMAGE
     * (CODE 210) is another one, V 180 HALTED, "s9" is on THE TAPE, ROW 3 alone is missing. The RUN of ROW 0 has the
     * outputs 3 (13 by 4), -6 (-22 by 4), -4 (-17 by 4); those of ROW 1 (55 by 4: 14) and 2 HALT at once.
     */
    private static CutOffFilter busy() {
        CutOffFilter x = by("c1,3;c2,-2;s2;r3;o4;y1,5;y2,-6");
        due(x.image(), 13 * 16 + 2);
        due(x.set(3, 0, 7), 1);
        due(x.set(7, 0, 1), 0);
        due(x.undo(), 6);
        due(x.step(99), HALTED);
        due(x.act(3, 2, 7), -69);
        fill(x, 0, 0, -2, -3, 1);
        fill(x, 1, 1, 4, 5);
        fill(x, 2, 2, 6, 7, 8, 9);
        due(x.feed('s'), 1);
        due(x.feed('9'), 2);
        return x;
    }

    private static long[] state(CutOffFilter x) {
        List<Long> state = new ArrayList<>();
        for (int what = 0; what < 8; what++) {
            for (int number = 1; number <= (what == 2 ? 3 : 1); number++) {
                state.add((long) x.of(what, number));
            }
        }
        for (int k = 0; k < 5; k++) {
            state.add((long) x.word(k));
            state.add((long) x.cause(k));
            state.add((long) x.count(k));
        }
        state.add((long) x.code());
        state.add((long) x.alike());
        for (int i = 0; i < 7; i++) {
            state.add((long) x.trace(i));
        }
        for (int row = 0; row < 4; row++) {
            state.add((long) x.run(row, 0));
            for (int i = 0; i < 5; i++) {
                state.add(x.get(row, i));
            }
        }
        return state.stream().mapToLong(n -> n).toArray();
    }

    /** What is asked, and what is refused: also THE TAPE, THE IMAGE and what can be done again are looked at. */
    private static void changesNothing(Consumer<CutOffFilter> calls) {
        CutOffFilter x = busy();
        long[] before = state(x);
        calls.accept(x);
        due(Arrays.equals(before, state(x)) ? 1 : 0, 1);
        due(x.redo(), 0);
        due(x.of(7, 0), 1);
        due(x.read(), -200);
        due(x.back(), 210);
        due(x.of(3, 0), 1);
    }

    // ---- promise 1: a new object

    static void p01_theNumbersAtFirst() {
        CutOffFilter x = new CutOffFilter();
        int[] first = {2, 4, 0, 1, 0, 0, 0, 0};
        for (int what = 0; what < 8; what++) {
            due(x.of(what, 1), first[what]);
        }
        due(x.of(2, 2), 0);
        due(x.of(2, 3), 0);
    }

    static void p01_thePastIsAll0() {
        CutOffFilter x = new CutOffFilter();
        words(x, 0, 0);
        due(x.code(), 136);
    }

    static void p01_theTapeIsEmpty() {
        CutOffFilter x = new CutOffFilter();
        due(x.count(2), 0);
        due(x.wipe(), 0);
        due(x.read(), -100);
    }

    static void p01_rowsAreMissing() {
        CutOffFilter x = new CutOffFilter();
        due(x.count(3), 0);
        for (int row = 0; row < 4; row++) {
            due(x.run(row, 0), MISSING);
            due(x.get(row, 0), VOID);
        }
    }

    static void p01_noChangesNoImageNoCausesNoTraceNoSteps() {
        CutOffFilter x = new CutOffFilter();
        due(x.undo(), STATE);
        due(x.redo(), STATE);
        due(x.alike(), STATE);
        due(x.back(), STATE);
        due(x.cause(0), NONE);
        due(x.trace(0), NOT);
        for (int what = 0; what < 5; what++) {
            due(x.count(what), 0);
        }
    }

    static void p01_objectsStandApart() {
        CutOffFilter x = busy();
        CutOffFilter y = new CutOffFilter();
        due(y.of(3, 0), 1);
        due(y.code(), 136);
        due(y.cycles(0, 0), 1);
        due(x.of(3, 0), 7);
        words(x, 5, -6);
        due(y.count(3), 0);
        due(y.trace(0), NOT);
    }

    static void p01_theConstants() {
        due(CutOffFilter.BAD, BAD);
        due(CutOffFilter.NOT, NOT);
        due(CutOffFilter.FULL, FULL);
        due(CutOffFilter.STATE, STATE);
        due(CutOffFilter.NO, NO);
        due(CutOffFilter.NONE, NONE);
        due(CutOffFilter.HALTED, HALTED);
        due(CutOffFilter.VOID, VOID);
        due(CutOffFilter.ENDED, ENDED);
    }

    // ---- promise 2: set

    /** The least and the greatest of a number are taken, the next ones beyond and the ends of int are refused. */
    private static void takes(int what, int which, int least, int greatest) {
        CutOffFilter x = by("b2");
        int was = x.of(what, which);
        due(x.set(what, which, least - 1), NO);
        due(x.set(what, which, greatest + 1), NO);
        for (int end : ENDS) {
            due(x.set(what, which, end), NO);
        }
        due(x.of(what, which), was);
        due(x.set(what, which, least), was);
        due(x.of(what, which), least);
        due(x.set(what, which, least - 1), NO);
        due(x.set(what, which, greatest), least);
        due(x.of(what, which), greatest);
        due(x.set(what, which, greatest + 1), NO);
        due(x.of(what, which), greatest);
    }

    static void p02_orderFrom1To3() { takes(0, 0, 1, 3); }
    static void p02_bitsFrom2To5() { takes(1, 0, 2, 5); }
    static void p02_coefficient1From99BelowTo99() { takes(2, 1, -99, 99); }
    static void p02_coefficient2From99BelowTo99() { takes(2, 2, -99, 99); }
    static void p02_coefficient3From99BelowTo99() { takes(2, 3, -99, 99); }
    static void p02_inFrom99BelowTo99() { takes(3, 0, -99, 99); }
    static void p02_shiftFrom0To6() { takes(4, 0, 0, 6); }
    static void p02_roundingFrom0To4() { takes(5, 0, 0, 4); }
    static void p02_overflowFrom0To4() { takes(6, 0, 0, 4); }
    static void p02_placeFrom0To1() { takes(7, 0, 0, 1); }

    static void p02_whatFrom0To7() {
        CutOffFilter x = new CutOffFilter();
        due(x.set(-1, 1, 1), NO);
        due(x.set(8, 1, 1), NO);
        for (int end : ENDS) {
            due(x.set(end, 1, 1), NO);
        }
        due(x.set(0, 1, 2), 2);
        due(x.set(7, 1, 0), 0);
    }

    static void p02_coefficientNumberFrom1To3() {
        CutOffFilter x = new CutOffFilter();
        due(x.set(2, 0, 5), NO);
        due(x.set(2, 4, 5), NO);
        for (int end : ENDS) {
            due(x.set(2, end, 5), NO);
        }
        for (int k = 1; k <= 3; k++) {
            due(x.of(2, k), 0);
        }
        due(x.of(3, 0), 1);
    }

    static void p02_numberMattersByACoefficientAlone() {
        CutOffFilter x = by("b2");
        int[] other = {3, 3, 0, 9, 6, 4, 4, 1};
        for (int what = 0; what < 8; what++) {
            if (what != 2) {
                int was = x.of(what, 0);
                due(x.set(what, LOW, other[what]), was);
                due(x.set(what, HIGH, was), other[what]);
                due(x.set(what, 0, was), was);
                due(x.set(what, 4, was), was);
            }
        }
    }

    static void p02_orderTimesBitsAt10() {
        CutOffFilter x = by("n1;b5");
        due(x.set(0, 0, 2), 1);
        due(x.of(0, 0) * x.of(1, 0), 10);
        x = by("b4");
        due(x.set(1, 0, 5), 4);
        due(x.starts(), 1024);
        x = by("b3");
        due(x.set(0, 0, 3), 2);
        due(x.starts(), 512);
    }

    static void p02_orderTimesBitsAbove10() {
        int[][] tooLarge = {{2, 4, 0, 3}, {2, 5, 0, 3}, {1, 4, 0, 3}, {1, 5, 0, 3}, {3, 3, 1, 4}, {3, 3, 1, 5}, {3, 2, 1, 4}, {3, 2, 1, 5}};
        for (int[] told : tooLarge) {
            CutOffFilter x = shape(told[0], told[1]);
            due(x.set(told[2], 0, told[3]), HALTED);
            due(x.of(0, 0), told[0]);
            due(x.of(1, 0), told[1]);
        }
    }

    static void p02_aNumberOutOfItsRangeComesAheadOfTooLargeTogether() {
        CutOffFilter x = by("b5");
        due(x.set(0, 0, 3), HALTED);
        due(x.set(0, 0, 4), NO);
        x = by("b3;n3");
        due(x.set(1, 0, 5), HALTED);
        due(x.set(1, 0, 6), NO);
        due(x.set(1, 0, HIGH), NO);
    }

    static void p02_whatIsRefusedChangesNothing() {
        changesNothing(x -> {
            due(x.set(0, 0, 3), HALTED);
            due(x.set(0, 0, 0), NO);
            due(x.set(1, 0, 6), NO);
            due(x.set(2, 0, 1), NO);
            due(x.set(2, 1, 100), NO);
            due(x.set(8, 0, 1), NO);
        });
    }

    static void p02_tellingWhatIsSoAlreadyChangesNothing() {
        changesNothing(x -> {
            int[] are = {2, 4, 3, 7, 2, 3, 4, 0};
            for (int what = 0; what < 8; what++) {
                due(x.set(what, 1, are[what]), are[what]);
            }
        });
    }

    static void p02_anotherOrderMakesThePastAll0() {
        CutOffFilter x = by("b3;y1,3;y2,-4;n3");
        words(x, 0, 0, 0);
        due(read(x, "y1,1;y2,2;y3,3"), 3);
        due(x.set(0, 0, 2), 3);
        words(x, 0, 0);
        due(x.past(1, 1), 0);
        due(x.set(0, 0, 1), 2);
        words(x, 0);
    }

    static void p02_anotherBitsMakesThePastAll0() {
        CutOffFilter x = by("b2;y1,1;y2,-2");
        due(x.set(1, 0, 5), 2);
        words(x, 0, 0);
        due(x.past(2, -16), 0);
        due(x.set(1, 0, 4), 5);
        words(x, 0, 0);
    }

    static void p02_allOtherNumbersLeaveThePast() {
        CutOffFilter x = by("y1,7;y2,-8");
        int[] other = {2, 4, 99, -99, 6, 4, 4, 1};
        for (int what = 0; what < 8; what++) {
            x.set(what, 1, other[what]);
            words(x, 7, -8);
        }
        due(x.set(0, 0, 3), HALTED);
        words(x, 7, -8);
    }

    static void p02_coefficientsAboveTheOrderPlayNoPartButStay() {
        CutOffFilter x = by("n1;c2,5;c3,9");
        due(x.of(2, 2), 5);
        due(x.of(2, 3), 9);
        due(x.past(1, 7), 0);
        due(x.would(0, 1), 0);
        due(read(x, "b3;n3;y1,1;y2,2;y3,3"), 5);
        due(x.would(0, 1), 37);
    }

    // ---- promise 3: of

    static void p03_whatFrom0To7() {
        CutOffFilter x = busy();
        due(x.of(-1, 1), NO);
        due(x.of(0, 1), 2);
        due(x.of(7, 1), 0);
        due(x.of(8, 1), NO);
        for (int end : ENDS) {
            due(x.of(end, 1), NO);
        }
    }

    static void p03_coefficientNumberFrom1To3() {
        CutOffFilter x = by("c1,7;c2,8;c3,9");
        due(x.of(2, 0), NO);
        due(x.of(2, 1), 7);
        due(x.of(2, 3), 9);
        due(x.of(2, 4), NO);
        for (int end : ENDS) {
            due(x.of(2, end), NO);
        }
    }

    static void p03_numberMattersByACoefficientAlone() {
        CutOffFilter x = busy();
        int[] are = {2, 4, 0, 7, 2, 3, 4, 0};
        for (int what = 0; what < 8; what++) {
            if (what != 2) {
                due(x.of(what, LOW), are[what]);
                due(x.of(what, -1), are[what]);
                due(x.of(what, 4), are[what]);
                due(x.of(what, HIGH), are[what]);
            }
        }
    }

    static void p03_changesNothing() {
        changesNothing(x -> {
            due(x.of(2, 1), 3);
            due(x.of(2, 4), NO);
        });
    }

    // ---- promise 4: past

    static void p04_theLeastAndTheGreatestWordOfEachBits() {
        for (int bits = 2; bits <= 5; bits++) {
            int half = 1 << (bits - 1);
            CutOffFilter x = shape(1, bits);
            due(x.past(1, half), NO);
            due(x.past(1, -half - 1), NO);
            due(x.past(1, half - 1), 0);
            due(x.past(1, -half), half - 1);
            due(x.past(1, half), NO);
            due(x.past(1, -half - 1), NO);
            words(x, -half);
            for (int end : ENDS) {
                due(x.past(1, end), NO);
            }
        }
    }

    static void p04_numbersFrom1ToTheOrder() {
        for (int order = 1; order <= 3; order++) {
            CutOffFilter x = shape(order, 2);
            due(x.past(0, 0), NO);
            due(x.past(1, 1), 0);
            due(x.past(order, -2), order == 1 ? 1 : 0);
            due(x.past(order + 1, 0), NO);
            for (int end : ENDS) {
                due(x.past(end, 0), NO);
            }
            due(x.word(order), -2);
        }
    }

    static void p04_isNoChange() {
        CutOffFilter x = new CutOffFilter();
        due(x.past(1, 3), 0);
        due(x.undo(), STATE);
        due(x.count(0), 0);
        due(x.set(4, 0, 1), 0);
        due(x.undo(), 0);
        due(x.past(1, 4), 3);
        due(x.count(1), 1);
        due(x.redo(), 0);
        due(x.word(1), 4);
    }

    static void p04_whatIsRefusedChangesNothing() {
        changesNothing(x -> {
            due(x.past(0, 1), NO);
            due(x.past(3, 1), NO);
            due(x.past(1, 8), NO);
            due(x.past(2, -9), NO);
            due(x.past(3, 8), NO);
        });
    }

    // ---- promise 5: word

    static void p05_numbersFrom1ToTheOrder() {
        for (int order = 1; order <= 3; order++) {
            CutOffFilter x = shape(order, 2);
            due(x.past(order, 1), 0);
            due(x.word(0), NO);
            due(x.word(order), 1);
            due(x.word(order + 1), NO);
            for (int end : ENDS) {
                due(x.word(end), NO);
            }
        }
    }

    static void p05_changesNothing() {
        changesNothing(x -> {
            due(x.word(1), 5);
            due(x.word(0), NO);
            due(x.word(3), NO);
        });
    }

    // ---- promise 6: step

    static void p06_inputsFrom99BelowTo99() {
        CutOffFilter x = new CutOffFilter();
        due(x.step(99), 3);
        due(x.step(-99), -3);
        due(x.step(100), NO);
        due(x.step(-100), NO);
        for (int end : ENDS) {
            due(x.step(end), NO);
        }
        due(x.count(4), 2);
    }

    static void p06_theGreatestAndTheLeastWordAreNotOver() {
        for (int bits = 2; bits <= 5; bits++) {
            int half = 1 << (bits - 1);
            CutOffFilter x = shape(1, bits);
            due(x.set(6, 0, 4), 0);
            due(x.step(half - 1), half - 1);
            due(x.step(half), HALTED);
            due(x.step(-half), -half);
            due(x.step(-half - 1), HALTED);
            causes(x, 0, 0, -half - 1);
        }
    }

    static void p06_wrapFromAbove() {
        CutOffFilter x = new CutOffFilter();
        due(x.step(7), 7);
        due(x.step(8), -8);
        due(x.step(23), 7);
        due(x.step(24), -8);
        x = by("b5");
        due(x.step(15), 15);
        due(x.step(16), -16);
        due(x.step(47), 15);
        due(x.step(48), -16);
        x = by("b2");
        due(x.step(1), 1);
        due(x.step(2), -2);
        due(x.step(6), -2);
    }

    static void p06_wrapFromBelow() {
        CutOffFilter x = new CutOffFilter();
        due(x.step(-8), -8);
        due(x.step(-9), 7);
        due(x.step(-24), -8);
        due(x.step(-25), 7);
        x = by("b5");
        due(x.step(-16), -16);
        due(x.step(-17), 15);
        x = by("b2");
        due(x.step(-2), -2);
        due(x.step(-3), 1);
        due(x.step(-7), 1);
    }

    static void p06_clipIsTheWordNextToV() {
        CutOffFilter x = by("o1");
        due(x.step(8), 7);
        due(x.step(99), 7);
        due(x.step(-9), -8);
        due(x.step(-99), -8);
        words(x, -8, -8);
    }

    static void p06_zeroFromBothSides() {
        CutOffFilter x = by("o2;y1,5;y2,6");
        due(x.step(8), 0);
        due(x.step(-9), 0);
        words(x, 0, 0);
    }

    static void p06_stayIsWord1AheadOfTheStep() {
        CutOffFilter x = by("o3;y1,-5;y2,6");
        due(x.step(8), -5);
        words(x, -5, -5);
        due(x.step(2), 2);
        due(x.step(-9), 2);
        words(x, 2, 2);
        due(x.count(4), 3);
    }

    static void p06_whereItHaltsThePastStays() {
        CutOffFilter x = by("o4;y1,-5;y2,6");
        due(x.step(8), HALTED);
        words(x, -5, 6);
        due(x.step(-9), HALTED);
        words(x, -5, 6);
        due(x.count(4), 0);
    }

    static void p06_whereItHaltsTheCausesAreTold() {
        CutOffFilter x = by("o4;i99;c1,99;y1,7");
        due(x.step(99), HALTED);
        causes(x, 0, 0, 10494);
        due(x.step(-99), HALTED);
        causes(x, 0, 0, -9108);
    }

    static void p06_wordsBeyondTheOrderAreGone() {
        CutOffFilter x = by("n1");
        due(x.step(1), 1);
        due(x.step(2), 2);
        words(x, 2);
        x = by("b3;n3;y1,1;y2,2;y3,3");
        due(x.step(-1), -1);
        words(x, -1, 1, 2);
        due(x.step(0), 0);
        words(x, 0, -1, 1);
    }

    static void p06_isNoChange() {
        CutOffFilter x = by("s1;s2");
        due(x.undo(), 1);
        due(x.step(8), 4);
        due(x.count(0), 1);
        due(x.count(1), 1);
        due(x.redo(), 0);
        words(x, 4, 0);
    }

    static void p06_whatIsRefusedChangesNothing() {
        changesNothing(x -> {
            due(x.step(100), NO);
            due(x.step(-100), NO);
            due(x.step(LOW), NO);
        });
    }

    // ---- promise 7: would

    static void p07_inputsFrom99BelowTo99() {
        CutOffFilter x = new CutOffFilter();
        due(x.would(99, 1), 99);
        due(x.would(-99, 1), -99);
        for (int what = 0; what < 5; what++) {
            due(x.would(100, what), NOTHING);
            due(x.would(-100, what), NOTHING);
            due(x.would(LOW, what), NOTHING);
            due(x.would(HIGH, what), NOTHING);
        }
    }

    static void p07_whatFrom0To4() {
        CutOffFilter x = new CutOffFilter();
        due(x.would(1, -1), NOTHING);
        due(x.would(1, 0), 1);
        due(x.would(8, 4), 1);
        due(x.would(1, 5), NOTHING);
        for (int end : ENDS) {
            due(x.would(1, end), NOTHING);
        }
    }

    static void p07_what0AloneIsHalted() {
        CutOffFilter x = by("o4;s1");
        due(x.would(17, 0), HALTED);
        due(x.would(17, 1), 17);
        due(x.would(17, 2), 8);
        due(x.would(17, 3), -1);
        due(x.would(17, 4), 1);
    }

    static void p07_overBeyondTheWordsOfEachBits() {
        for (int bits = 2; bits <= 5; bits++) {
            int half = 1 << (bits - 1);
            CutOffFilter x = shape(2, bits);
            due(x.would(half - 1, 4), 0);
            due(x.would(half, 4), 1);
            due(x.would(-half, 4), 0);
            due(x.would(-half - 1, 4), 1);
        }
    }

    static void p07_theGreatestAndTheLeastAll() {
        CutOffFilter x = by("b5;i99;c1,-99;c2,-99;y1,-16;y2,-16");
        due(x.would(99, 1), 12969);
        due(x.would(99, 2), 12969);
        // 405 times 32 is 12960
        due(x.would(99, 0), 9);
        due(read(x, "c1,99;c2,99"), 2);
        due(x.would(-99, 1), -12969);
        due(x.would(-99, 0), -9);
        due(x.set(4, 0, 6), 0);
        // -202.64.. by DOWN is -203; -203 times 64 is -12992
        due(x.would(-99, 2), -203);
        due(x.would(-99, 3), -23);
    }

    static void p07_lossOfFourProductsApart() {
        CutOffFilter x = by("b3;n3;s6;p1;c1,-1;c2,-1;c3,-1;y1,1;y2,1;y3,1");
        due(x.would(-1, 2), -4);
        due(x.would(-1, 3), -252);
        due(x.would(-1, 4), 0);
        due(x.set(5, 0, 1), 0);
        due(x.would(-1, 2), 0);
        due(x.would(-1, 3), 4);
        due(x.set(7, 0, 0), 1);
        due(x.would(-1, 3), 4);
    }

    static void p07_changesNothing() {
        changesNothing(x -> {
            due(x.would(99, 0), HALTED);
            due(x.would(99, 2), 180);
            due(x.would(0, 0), 7);
            due(x.would(100, 0), NOTHING);
            due(x.would(0, 5), NOTHING);
        });
    }

    // ---- promise 8: rounded

    static void p08_roundingFrom0To4() {
        CutOffFilter x = new CutOffFilter();
        due(x.rounded(-1, 0, 0), NOTHING);
        due(x.rounded(0, 0, 5), 5);
        due(x.rounded(4, 0, 5), 5);
        due(x.rounded(5, 0, 0), NOTHING);
        for (int end : ENDS) {
            due(x.rounded(end, 0, 0), NOTHING);
        }
    }

    static void p08_shiftFrom0To6() {
        CutOffFilter x = new CutOffFilter();
        due(x.rounded(0, -1, 64), NOTHING);
        due(x.rounded(0, 0, 64), 64);
        due(x.rounded(0, 6, 64), 1);
        due(x.rounded(0, 7, 64), NOTHING);
        for (int end : ENDS) {
            due(x.rounded(0, end, 64), NOTHING);
        }
    }

    static void p08_vFrom100000BelowTo100000() {
        CutOffFilter x = new CutOffFilter();
        int[] above = {1562, 1562, 1563, 1562, 1563};
        int[] below = {-1563, -1562, -1562, -1562, -1563};
        for (int kind = 0; kind < 5; kind++) {
            // 1562.5 by 64: the bounds lie halfway
            due(x.rounded(kind, 6, 100000), above[kind]);
            due(x.rounded(kind, 6, -100000), below[kind]);
            due(x.rounded(kind, 0, 100000), 100000);
            due(x.rounded(kind, 0, -100000), -100000);
            due(x.rounded(kind, 6, 100001), NOTHING);
            due(x.rounded(kind, 6, -100001), NOTHING);
        }
        for (int end : ENDS) {
            due(x.rounded(0, 6, end), NOTHING);
        }
    }

    static void p08_whatIsWholeStaysByEachKind() {
        CutOffFilter x = new CutOffFilter();
        for (int kind = 0; kind < 5; kind++) {
            for (int v : new int[] {-192, -64, 0, 64, 192}) {
                due(x.rounded(kind, 6, v), v / 64);
                due(x.rounded(kind, 0, v), v);
            }
        }
    }

    private static void roundsHalves(int kind, int... due) {
        CutOffFilter x = new CutOffFilter();
        int[] told = {-5, -3, -1, 1, 3, 5};
        for (int i = 0; i < told.length; i++) {
            due(x.rounded(kind, 1, told[i]), due[i]);
            due(x.rounded(kind, 6, told[i] * 32), due[i]);
        }
    }

    static void p08_downHalfway() { roundsHalves(0, -3, -2, -1, 0, 1, 2); }
    static void p08_cutHalfway() { roundsHalves(1, -2, -1, 0, 0, 1, 2); }
    static void p08_nearHalfwayIsTheGreater() { roundsHalves(2, -2, -1, 0, 1, 2, 3); }
    static void p08_evenHalfwayIsTheEvenOne() { roundsHalves(3, -2, -2, 0, 0, 2, 2); }
    static void p08_awayHalfway() { roundsHalves(4, -3, -2, -1, 1, 2, 3); }

    private static void roundsNextToHalves(int kind, int... due) {
        CutOffFilter x = new CutOffFilter();
        int[] told = {-97, -95, -65, -63, -33, -31, -1, 1, 31, 33, 63, 65, 95, 97};
        for (int i = 0; i < told.length; i++) {
            due(x.rounded(kind, 6, told[i]), due[i]);
        }
    }

    static void p08_downNextToHalfway() { roundsNextToHalves(0, -2, -2, -2, -1, -1, -1, -1, 0, 0, 0, 0, 1, 1, 1); }
    static void p08_cutNextToHalfway() { roundsNextToHalves(1, -1, -1, -1, 0, 0, 0, 0, 0, 0, 0, 0, 1, 1, 1); }
    static void p08_nearNextToHalfway() { roundsNextToHalves(2, -2, -1, -1, -1, -1, 0, 0, 0, 0, 1, 1, 1, 1, 2); }
    static void p08_evenNextToHalfway() { roundsNextToHalves(3, -2, -1, -1, -1, -1, 0, 0, 0, 0, 1, 1, 1, 1, 2); }
    static void p08_awayNextToHalfway() { roundsNextToHalves(4, -2, -2, -2, -1, -1, -1, -1, 1, 1, 1, 1, 2, 2, 2); }

    static void p08_changesNothing() {
        changesNothing(x -> {
            due(x.rounded(0, 6, -1), -1);
            due(x.rounded(5, 0, 0), NOTHING);
            due(x.rounded(0, 7, 0), NOTHING);
            due(x.rounded(0, 0, 100001), NOTHING);
        });
    }

    // ---- promise 9: bounded

    static void p09_overflowFrom0To4() {
        CutOffFilter x = new CutOffFilter();
        due(x.bounded(-1, 5), NO);
        due(x.bounded(0, 5), 5);
        due(x.bounded(4, 5), 5);
        due(x.bounded(5, 5), NO);
        for (int end : ENDS) {
            due(x.bounded(end, 5), NO);
        }
    }

    static void p09_vFrom100000BelowTo100000() {
        CutOffFilter x = by("y1,3");
        int[] above = {0, 7, 0, 3, HALTED};
        int[] below = {0, -8, 0, 3, HALTED};
        for (int kind = 0; kind < 5; kind++) {
            due(x.bounded(kind, 100000), above[kind]);
            due(x.bounded(kind, -100000), below[kind]);
            due(x.bounded(kind, 100001), NO);
            due(x.bounded(kind, -100001), NO);
            due(x.bounded(kind, LOW), NO);
            due(x.bounded(kind, HIGH), NO);
        }
    }

    static void p09_aWordIsItselfByEachKind() {
        for (int bits = 2; bits <= 5; bits++) {
            int half = 1 << (bits - 1);
            CutOffFilter x = shape(1, bits);
            due(x.past(1, -1), 0);
            for (int kind = 0; kind < 5; kind++) {
                due(x.bounded(kind, half - 1), half - 1);
                due(x.bounded(kind, -half), -half);
                due(x.bounded(kind, 0), 0);
            }
        }
    }

    static void p09_theNextBeyondTheWordsOfEachBits() {
        for (int bits = 2; bits <= 5; bits++) {
            int half = 1 << (bits - 1);
            int[] above = {-half, half - 1, 0, -1, HALTED};
            int[] below = {half - 1, -half, 0, -1, HALTED};
            CutOffFilter x = shape(1, bits);
            due(x.past(1, -1), 0);
            for (int kind = 0; kind < 5; kind++) {
                due(x.bounded(kind, half), above[kind]);
                due(x.bounded(kind, -half - 1), below[kind]);
            }
        }
    }

    static void p09_wrapManyTimesAround() {
        CutOffFilter x = new CutOffFilter();
        due(x.bounded(0, 23), 7);
        due(x.bounded(0, 24), -8);
        due(x.bounded(0, -24), -8);
        due(x.bounded(0, -25), 7);
        for (int bits = 2; bits <= 5; bits++) {
            // 100000 is 32 times 3125
            x = shape(1, bits);
            due(x.bounded(0, 99999), -1);
            due(x.bounded(0, -99999), 1);
            due(x.bounded(0, 99998), -2);
        }
    }

    static void p09_stayIsWord1AsItIs() {
        CutOffFilter x = by("y1,-7;y2,4");
        due(x.bounded(3, 8), -7);
        due(x.bounded(3, -9), -7);
        due(x.past(1, 6), -7);
        due(x.bounded(3, 8), 6);
    }

    static void p09_changesNothing() {
        changesNothing(x -> {
            due(x.bounded(4, 8), HALTED);
            due(x.bounded(3, 8), 5);
            due(x.bounded(5, 0), NO);
            due(x.bounded(0, 100001), NO);
        });
    }

    // ---- promise 10: output

    static void p10_rowsFrom0To3() {
        CutOffFilter x = new CutOffFilter();
        fill(x, 0, 0, 5);
        fill(x, 3, 0, 6);
        due(x.output(-1, 0), NO);
        due(x.output(0, 0), 5);
        due(x.output(3, 0), 6);
        due(x.output(4, 0), NO);
        for (int end : ENDS) {
            due(x.output(end, 0), NO);
        }
    }

    static void p10_aRowThatIsMissing() {
        CutOffFilter x = new CutOffFilter();
        due(x.output(0, 0), MISSED);
        fill(x, 0, 0, 5);
        due(x.output(0, 0), 5);
        due(x.row(0, -1, 0), 1);
        due(x.output(0, 0), MISSED);
    }

    static void p10_outputsFrom0ToTheLast() {
        CutOffFilter x = new CutOffFilter();
        fill(x, 0, 0, 5, 6);
        due(x.output(0, -1), NONE);
        due(x.output(0, 0), 5);
        due(x.output(0, 1), 6);
        due(x.output(0, 2), NONE);
        for (int end : ENDS) {
            due(x.output(0, end), NONE);
        }
    }

    static void p10_aRowOf0Numbers() {
        CutOffFilter x = new CutOffFilter();
        due(x.row(0, 0, 0), 1);
        due(x.output(0, 0), NONE);
        due(x.output(0, -1), NONE);
    }

    static void p10_aRowOf40Numbers() {
        CutOffFilter x = new CutOffFilter();
        fill40(x, 0, 0, 1, -7);
        due(x.output(0, 38), 1);
        due(x.output(0, 39), -7);
        due(x.output(0, 40), NONE);
    }

    static void p10_aRunEndsAsItHalts() {
        CutOffFilter x = halting();
        outputs(x, 1, 3, 5, 4);
        fill(x, 0, 0, 8, 1);
        outputs(x, 0);
    }

    static void p10_bytesBeyond99CountAs99() {
        CutOffFilter x = new CutOffFilter();
        fill(x, 0, 0, 98, 99, 100, 127, -98, -99, -100, -128);
        outputs(x, 0, 2, 3, 3, 3, -2, -3, -3, -3);
    }

    static void p10_intsBeyond99CountAs99() {
        CutOffFilter x = new CutOffFilter();
        fill(x, 0, 1, 100, HIGH, -100, LOW, 256 + 5);
        outputs(x, 0, 3, 3, -3, -3, 3);
    }

    static void p10_longsBeyond99CountAs99() {
        CutOffFilter x = new CutOffFilter();
        fill(x, 0, 2, 100, Long.MAX_VALUE, -100, Long.MIN_VALUE, (1L << 32) + 5, -(1L << 32) + 5, 1L << 31, -(1L << 31) - 1);
        outputs(x, 0, 3, 3, -3, -3, 3, -3, 3, -3);
        due(x.get(0, 4), (1L << 32) + 5);
    }

    static void p10_ofSeveralTheFirst() {
        CutOffFilter x = new CutOffFilter();
        due(x.output(4, -1), NO);
        due(x.output(0, -1), MISSED);
    }

    static void p10_changesNothing() {
        changesNothing(x -> {
            due(x.output(0, 0), 3);
            due(x.output(0, 3), NONE);
            due(x.output(1, 0), NONE);
            due(x.output(3, 0), MISSED);
            due(x.output(4, 0), NO);
        });
    }

    // ---- promise 11: run

    static void p11_rowsFrom0To3() {
        CutOffFilter x = new CutOffFilter();
        fill(x, 0, 0, 5);
        fill(x, 3, 0, 6, 7);
        due(x.run(-1, 0), BAD);
        due(x.run(0, 0), 1);
        due(x.run(3, 0), 2);
        due(x.run(4, 0), BAD);
        for (int end : ENDS) {
            due(x.run(end, 0), BAD);
        }
    }

    static void p11_whatFrom0To2() {
        CutOffFilter x = halting();
        due(x.run(1, -1), BAD);
        due(x.run(1, 0), 3);
        due(x.run(1, 1), 1);
        due(x.run(1, 2), 1);
        due(x.run(1, 3), BAD);
        for (int end : ENDS) {
            due(x.run(1, end), BAD);
        }
    }

    static void p11_aRowThatIsMissing() {
        CutOffFilter x = new CutOffFilter();
        for (int what = 0; what < 3; what++) {
            due(x.run(2, what), MISSING);
        }
        fill(x, 2, 0, 5);
        due(x.run(2, 0), 1);
        due(x.row(2, -1, 0), 1);
        due(x.run(2, 0), MISSING);
    }

    static void p11_ofSeveralTheFirst() {
        CutOffFilter x = new CutOffFilter();
        due(x.run(0, 3), BAD);
        due(x.run(0, -1), BAD);
    }

    private static void runs(CutOffFilter x, int row, int outputs, int overs, int halts) {
        due(x.run(row, 0), outputs);
        due(x.run(row, 1), overs);
        due(x.run(row, 2), halts);
    }

    static void p11_aRowOf0Numbers() {
        CutOffFilter x = by("o4");
        due(x.row(0, 2, 0), 1);
        runs(x, 0, 0, 0, 0);
    }

    static void p11_aRowOf40Numbers() {
        CutOffFilter x = new CutOffFilter();
        fill40(x, 0, 0, 8, 8);
        runs(x, 0, 40, 40, 0);
        fill40(x, 0, 0, 7, -8);
        runs(x, 0, 40, 0, 0);
        fill40(x, 0, 0, 7, -9);
        runs(x, 0, 40, 1, 0);
    }

    static void p11_itHaltsAtTheFirst() {
        CutOffFilter x = by("o4");
        fill(x, 0, 0, 8, 9, 1);
        runs(x, 0, 0, 1, 1);
    }

    static void p11_itHaltsAtTheFortieth() {
        CutOffFilter x = by("o4");
        fill40(x, 0, 0, 1, -9);
        runs(x, 0, 39, 1, 1);
    }

    static void p11_beyond99CountsAs99() {
        // 128 by 16 would be 8 and -144 by 16 -9: OVER
        CutOffFilter x = by("s4;o4");
        fill(x, 0, 1, 128, -144);
        runs(x, 0, 2, 0, 0);
    }

    static void p11_changesNothing() {
        changesNothing(x -> {
            runs(x, 0, 3, 0, 0);
            runs(x, 1, 0, 1, 1);
            due(x.run(3, 0), MISSING);
            due(x.run(4, 0), BAD);
        });
    }

    // ---- promise 12: go

    static void p12_rowsFrom0To3() {
        CutOffFilter x = new CutOffFilter();
        fill(x, 0, 0, 5);
        fill(x, 3, 0, 6, 7);
        due(x.go(-1), BAD);
        due(x.go(4), BAD);
        for (int end : ENDS) {
            due(x.go(end), BAD);
        }
        words(x, 0, 0);
        due(x.go(0), 1);
        due(x.go(3), 2);
        words(x, 7, 6);
    }

    static void p12_aRowThatIsMissing() {
        CutOffFilter x = by("y1,4");
        due(x.go(0), MISSING);
        words(x, 4, 0);
    }

    static void p12_aRowOf0Numbers() {
        CutOffFilter x = by("y1,4;o4");
        due(x.row(0, 0, 0), 1);
        due(x.go(0), 0);
        words(x, 4, 0);
        due(x.count(4), 0);
        due(x.cause(0), NONE);
    }

    static void p12_aRowOf40Numbers() {
        // y = y1 + 1, 40 times, from 0: 40 is -8 of 4 bits
        CutOffFilter x = by("c1,1");
        fill40(x, 0, 0, 1, 1);
        due(x.go(0), 40);
        words(x, -8, 7);
        due(x.count(4), 40);
    }

    static void p12_itHaltsAtTheFirst() {
        CutOffFilter x = by("o4;y1,4;y2,5");
        fill(x, 0, 0, 8, 1);
        due(x.go(0), 0);
        words(x, 4, 5);
        due(x.count(4), 0);
        causes(x, 0, 0, 8);
    }

    static void p12_itHaltsAtTheFortieth() {
        CutOffFilter x = by("o4");
        fill40(x, 0, 0, 3, -9);
        due(x.go(0), 39);
        words(x, 3, 3);
        due(x.count(4), 39);
        causes(x, 39, 0, -9);
    }

    static void p12_whereItDoesNotHaltTheCausesStay() {
        CutOffFilter x = by("o4");
        due(x.step(8), HALTED);
        fill(x, 0, 0, 7, -8);
        due(x.go(0), 2);
        causes(x, 0, 0, 8);
    }

    static void p12_beyond99CountsAs99() {
        CutOffFilter x = by("s4;o4");
        fill(x, 0, 2, Long.MAX_VALUE, Long.MIN_VALUE);
        due(x.go(0), 2);
        words(x, -7, 6);
    }

    static void p12_isNoChange() {
        CutOffFilter x = by("s1;s2");
        due(x.undo(), 1);
        fill(x, 0, 0, 2);
        due(x.go(0), 1);
        due(x.count(0), 1);
        due(x.redo(), 0);
        words(x, 1, 0);
    }

    static void p12_whatIsRefusedChangesNothing() {
        changesNothing(x -> {
            due(x.go(3), MISSING);
            due(x.go(4), BAD);
            due(x.go(-1), BAD);
        });
    }

    // ---- promise 13: noise

    private static void noises(CutOffFilter x, int row, long above, long below) {
        due(x.noise(row, 0), above);
        due(x.noise(row, 1), below);
    }

    static void p13_rowsFrom0To3() {
        CutOffFilter x = by("s1");
        fill(x, 0, 0, 1);
        fill(x, 3, 0, 2);
        due(x.noise(-1, 0), VOID);
        noises(x, 0, 1, 2);
        noises(x, 3, 0, 1);
        due(x.noise(4, 0), VOID);
        for (int end : ENDS) {
            due(x.noise(end, 0), VOID);
        }
    }

    static void p13_partsFrom0To1() {
        CutOffFilter x = by("s1");
        fill(x, 0, 0, 1);
        due(x.noise(0, -1), VOID);
        due(x.noise(0, 2), VOID);
        for (int end : ENDS) {
            due(x.noise(0, end), VOID);
        }
    }

    static void p13_aRowThatIsMissing() {
        CutOffFilter x = new CutOffFilter();
        due(x.noise(0, 0), VOID);
        due(x.noise(0, 1), VOID);
    }

    static void p13_0Is0Over1() {
        CutOffFilter x = by("s6;o4");
        due(x.row(0, 0, 0), 1);
        noises(x, 0, 0, 1);
        fill(x, 1, 0, 64, -64, 0);
        noises(x, 1, 0, 1);
    }

    static void p13_aStepThatHaltsIsNoneOfIt() {
        CutOffFilter x = by("s1;o4");
        fill(x, 0, 0, 17, 1);
        noises(x, 0, 0, 1);
        fill(x, 0, 0, 1, 17, 1);
        noises(x, 0, 1, 2);
    }

    static void p13_aStepThatIsOverIsOfIt() {
        // V 8 by 2 less 17, whatever becomes of V
        CutOffFilter x = by("s1");
        fill(x, 0, 0, 17);
        for (int overflow = 0; overflow < 4; overflow++) {
            x.set(6, 0, overflow);
            noises(x, 0, 1, 2);
        }
    }

    static void p13_lossesWithoutSign() {
        CutOffFilter x = by("s2;r3");
        fill(x, 0, 0, 1, 3);
        noises(x, 0, 1, 2);
    }

    static void p13_lowestTerms() {
        CutOffFilter x = by("s2");
        fill(x, 0, 0, 1, 1, 1);
        noises(x, 0, 3, 4);
        fill(x, 0, 0, 1, 1);
        noises(x, 0, 1, 2);
        fill(x, 0, 0, 1, 1, 1, 1);
        noises(x, 0, 1, 1);
        fill(x, 0, 0, 3, 3, 3, 3);
        noises(x, 0, 3, 1);
    }

    static void p13_aRowOf40Numbers() {
        // 63 lost by 64, 40 times: 2520 by 64
        CutOffFilter x = by("s6");
        fill40(x, 0, 0, 63, 63);
        noises(x, 0, 315, 8);
    }

    static void p13_beyond99CountsAs99() {
        CutOffFilter x = by("s4");
        fill(x, 0, 1, 112);
        noises(x, 0, 3, 16);
        fill(x, 0, 1, -112);
        noises(x, 0, 13, 16);
    }

    static void p13_changesNothing() {
        changesNothing(x -> {
            // LOSSES -1, -2, 1
            noises(x, 0, 1, 1);
            noises(x, 1, 0, 1);
            due(x.noise(3, 0), VOID);
            due(x.noise(0, 2), VOID);
        });
    }

    // ---- promises 14 and 15: levels, level

    static void p14_rowsFrom0To3() {
        CutOffFilter x = by("s1");
        fill(x, 0, 0, 1);
        fill(x, 3, 0, 2, 3);
        due(x.levels(-1), BAD);
        due(x.levels(0), 1);
        due(x.levels(3), 2);
        due(x.levels(4), BAD);
        for (int end : ENDS) {
            due(x.levels(end), BAD);
        }
    }

    static void p14_aRowThatIsMissing() {
        due(new CutOffFilter().levels(0), MISSING);
    }

    static void p14_aRunWithNoStep() {
        CutOffFilter x = by("o4");
        due(x.row(0, 0, 0), 1);
        due(x.levels(0), 0);
        fill(x, 0, 0, 8, 1);
        due(x.levels(0), 0);
    }

    static void p14_aStepThatHaltsIsNoneOfIt() {
        CutOffFilter x = by("s1;o4");
        fill(x, 0, 0, 2, 17);
        due(x.levels(0), 1);
        due(x.set(6, 0, 0), 4);
        due(x.levels(0), 2);
    }

    /** 0 .. 39 by 64, by DOWN: 40 LOSSES. */
    private static CutOffFilter with40Levels() {
        CutOffFilter x = by("s6");
        long[] numbers = new long[40];
        for (int i = 0; i < 40; i++) {
            numbers[i] = i;
        }
        fill(x, 0, 0, numbers);
        return x;
    }

    static void p14_40Levels() {
        due(with40Levels().levels(0), 40);
    }

    static void p14_oneLevelOf40() {
        CutOffFilter x = by("s6");
        fill40(x, 0, 0, 5, 69);
        due(x.levels(0), 1);
        due(x.level(0, 0, 2), 40);
    }

    static void p14_beyond99CountsAs99() {
        // 112 by 16 would be whole, as 96 is
        CutOffFilter x = by("s4");
        fill(x, 0, 1, 112, 96);
        due(x.levels(0), 2);
    }

    static void p14_changesNothing() {
        changesNothing(x -> {
            due(x.levels(0), 3);
            due(x.levels(3), MISSING);
            due(x.levels(4), BAD);
        });
    }

    private static void level(CutOffFilter x, int row, int k, int... due) {
        for (int what = 0; what < 3; what++) {
            due(x.level(row, k, what), due[what]);
        }
    }

    static void p15_rowsFrom0To3() {
        CutOffFilter x = by("s1");
        fill(x, 0, 0, 1);
        fill(x, 3, 0, 2);
        due(x.level(-1, 0, 0), NOTHING);
        level(x, 0, 0, -1, 2, 1);
        level(x, 3, 0, 0, 1, 1);
        due(x.level(4, 0, 0), NOTHING);
        for (int end : ENDS) {
            due(x.level(end, 0, 0), NOTHING);
        }
    }

    static void p15_whatFrom0To2() {
        CutOffFilter x = by("s1");
        fill(x, 0, 0, 1);
        due(x.level(0, 0, -1), NOTHING);
        due(x.level(0, 0, 3), NOTHING);
        for (int end : ENDS) {
            due(x.level(0, 0, end), NOTHING);
        }
    }

    static void p15_levelsFrom0ToTheLast() {
        CutOffFilter x = with40Levels();
        due(x.level(0, -1, 0), NOTHING);
        level(x, 0, 0, 0, 1, 1);
        level(x, 0, 39, -39, 64, 1);
        due(x.level(0, 40, 0), NOTHING);
        due(x.level(0, 40, 2), NOTHING);
        for (int end : ENDS) {
            due(x.level(0, end, 0), NOTHING);
        }
    }

    static void p15_aRowThatIsMissing() {
        due(new CutOffFilter().level(0, 0, 0), NOTHING);
    }

    static void p15_aRunWithNoStep() {
        CutOffFilter x = by("o4");
        due(x.row(0, 0, 0), 1);
        due(x.level(0, 0, 0), NOTHING);
        fill(x, 0, 0, 8);
        due(x.level(0, 0, 2), NOTHING);
    }

    static void p15_0Is0Over1() {
        CutOffFilter x = by("s6");
        fill(x, 0, 0, 64, -64, 0);
        level(x, 0, 0, 0, 1, 3);
        due(x.level(0, 1, 0), NOTHING);
    }

    static void p15_lowestTerms() {
        CutOffFilter x = with40Levels();
        level(x, 0, 32, -1, 2, 1);
        level(x, 0, 24, -3, 8, 1);
        level(x, 0, 1, -1, 64, 1);
    }

    static void p15_aWholeLossOfProductsApart() {
        // three products of 2 and one of 2 by 4, by AWAY 1 each: 4 times 4 less 8 is 8, by 4: 2
        CutOffFilter x = by("b3;n3;s2;r4;p1;i2;c1,2;c2,2;c3,2;y1,1;y2,1;y3,1");
        fill(x, 0, 0, 1);
        level(x, 0, 0, 2, 1, 1);
    }

    static void p15_numberedAsTheFirstSuchComes() {
        CutOffFilter x = by("s2");
        fill(x, 0, 0, 3, 1, 3, 0, 1, 3, 4);
        level(x, 0, 0, -3, 4, 3);
        level(x, 0, 1, -1, 4, 2);
        level(x, 0, 2, 0, 1, 2);
    }

    static void p15_beyond99CountsAs99() {
        CutOffFilter x = by("s4");
        fill(x, 0, 2, Long.MAX_VALUE, 96, -112, Long.MIN_VALUE);
        level(x, 0, 0, -3, 16, 1);
        level(x, 0, 1, 0, 1, 1);
        level(x, 0, 2, -13, 16, 2);
    }

    static void p15_changesNothing() {
        changesNothing(x -> {
            level(x, 0, 0, -1, 4, 1);
            level(x, 0, 1, -1, 2, 1);
            level(x, 0, 2, 1, 4, 1);
            due(x.level(0, 3, 0), NOTHING);
            due(x.level(3, 0, 0), NOTHING);
        });
    }

    // ---- promise 16: measure

    static void p16_rowsFrom0To3() {
        CutOffFilter x = new CutOffFilter();
        fill(x, 0, 0, 5);
        fill(x, 3, 0, 6);
        due(x.measure(-1, 1), VOID);
        due(x.measure(0, 1), 25);
        due(x.measure(3, 1), 36);
        due(x.measure(4, 1), VOID);
        for (int end : ENDS) {
            due(x.measure(end, 1), VOID);
        }
    }

    static void p16_unitsFrom1To2000000000() {
        CutOffFilter x = new CutOffFilter();
        fill(x, 0, 0, 1);
        due(x.measure(0, 0), VOID);
        due(x.measure(0, -1), VOID);
        due(x.measure(0, 1), 1);
        due(x.measure(0, 2000000000), 2000000000);
        due(x.measure(0, 2000000001), VOID);
        for (int end : ENDS) {
            due(x.measure(0, end), VOID);
        }
    }

    static void p16_aRowThatIsMissing() {
        due(new CutOffFilter().measure(0, 1), VOID);
    }

    static void p16_aRowOf0Numbers() {
        CutOffFilter x = by("o4");
        due(x.row(0, 0, 0), 1);
        due(x.measure(0, 2000000000), 0);
        due(x.cause(0), NONE);
    }

    static void p16_theGreatestSquareThatIsAnInt() {
        CutOffFilter x = new CutOffFilter();
        // 2147483647 itself is no square times a UNIT; these are next below it: 9 times, 4 times, 64 times
        fill(x, 0, 0, 3);
        due(x.measure(0, 238609294), 2147483646);
        fill(x, 0, 0, 2);
        due(x.measure(0, 536870911), 2147483644);
        fill(x, 0, 0, -8);
        due(x.measure(0, 33554431), 2147483584);
        due(x.cause(0), NONE);
    }

    static void p16_theNextSquareAboveIsTooMuch() {
        CutOffFilter x = new CutOffFilter();
        fill(x, 0, 0, 3);
        due(x.measure(0, 238609295), ENDED);
        causes(x, 0, 1, 3);
        // 2147483648, 1 above the greatest int
        fill(x, 0, 0, 2);
        due(x.measure(0, 536870912), ENDED);
        causes(x, 0, 1, 2);
        fill(x, 0, 0, -8);
        due(x.measure(0, 33554432), ENDED);
        causes(x, 0, 1, -8);
    }

    static void p16_aSquareThatComesRoundToAnIntIsTooMuch() {
        // 256 times 16777216 is 2 to the 32; 256 times 2000000000 and 49 times 2000000000 are far above
        CutOffFilter x = by("b5");
        fill(x, 0, 0, -16);
        due(x.measure(0, 16777216), ENDED);
        causes(x, 0, 1, -16);
        due(x.measure(0, 16777217), ENDED);
        due(x.measure(0, 2000000000), ENDED);
        fill(x, 0, 0, 7);
        due(x.measure(0, 2000000000), ENDED);
        causes(x, 0, 1, 7);
    }

    static void p16_theGreatestSumThatIsAnInt() {
        CutOffFilter x = new CutOffFilter();
        fill(x, 0, 0, 1, -1);
        due(x.measure(0, 1073741823), 2147483646);
        fill40(x, 0, 0, 1, 1);
        due(x.measure(0, 53687091), 2147483640);
        due(x.cause(0), NONE);
    }

    static void p16_theNextSumAboveIsTooMuch() {
        CutOffFilter x = new CutOffFilter();
        // 2147483648, 1 above the greatest int
        fill(x, 0, 0, 1, -1);
        due(x.measure(0, 1073741824), ENDED);
        causes(x, 1, 2, 1073741824);
        fill40(x, 0, 0, 1, 1);
        due(x.measure(0, 53687092), ENDED);
        causes(x, 39, 2, 53687092);
    }

    static void p16_squareIsLookedAtAheadOfSum() {
        CutOffFilter x = new CutOffFilter();
        fill(x, 0, 0, 1, 3);
        due(x.measure(0, 238609294), ENDED);
        causes(x, 1, 2, 2147483646);
        due(x.measure(0, 238609295), ENDED);
        causes(x, 1, 1, 3);
    }

    static void p16_itHalts() {
        CutOffFilter x = by("o4");
        fill(x, 0, 0, 8, 1);
        due(x.measure(0, 1), ENDED);
        causes(x, 0, 0, 8);
        fill40(x, 0, 0, 1, -9);
        due(x.measure(0, 1), ENDED);
        causes(x, 39, 0, -9);
    }

    static void p16_theFirstOfHaltAndTooMuch() {
        CutOffFilter x = by("o4");
        fill(x, 0, 0, 2, 8, 3);
        due(x.measure(0, 536870912), ENDED);
        causes(x, 0, 1, 2);
        due(x.measure(0, 536870911), ENDED);
        causes(x, 1, 0, 8);
    }

    static void p16_whereItDoesNotEndSoTheCausesStay() {
        CutOffFilter x = by("o4");
        due(x.step(8), HALTED);
        fill(x, 0, 0, 7);
        due(x.measure(0, 1), 49);
        due(x.measure(0, 0), VOID);
        due(x.measure(1, 1), VOID);
        causes(x, 0, 0, 8);
    }

    static void p16_beyond99CountsAs99() {
        CutOffFilter x = by("s4;o4");
        fill(x, 0, 2, Long.MAX_VALUE, Long.MIN_VALUE);
        due(x.measure(0, 1), 36 + 49);
    }

    static void p16_leavesAllButTheCauses() {
        changesNothing(x -> {
            due(x.measure(0, 100), 900 + 3600 + 1600);
            due(x.measure(3, 1), VOID);
            due(x.measure(0, 0), VOID);
        });
        CutOffFilter x = halting();
        due(x.measure(1, 1), ENDED);
        words(x, 0, 0);
        due(x.count(4), 0);
    }

    // ---- promise 17: cause

    static void p17_numbersFrom0To2() {
        CutOffFilter x = busy();
        due(x.cause(-1), NOTHING);
        due(x.cause(0), 0);
        due(x.cause(2), 180);
        due(x.cause(3), NOTHING);
        for (int end : ENDS) {
            due(x.cause(end), NOTHING);
        }
    }

    static void p17_noCauses() {
        CutOffFilter x = new CutOffFilter();
        for (int k = 0; k < 3; k++) {
            due(x.cause(k), NONE);
        }
    }

    static void p17_ofSeveralTheFirst() {
        CutOffFilter x = new CutOffFilter();
        due(x.cause(-1), NOTHING);
        due(x.cause(3), NOTHING);
    }

    static void p17_askedStepsAndRunsTellNone() {
        CutOffFilter x = halting();
        due(x.would(9, 0), HALTED);
        due(x.next(255, 9), STATE);
        due(x.run(1, 2), 1);
        due(x.output(1, 3), NONE);
        due(x.noise(1, 0), 0);
        due(x.levels(1), 1);
        due(x.film(2, 0, 1), 3);
        due(x.fits(1, 2, 0), 31);
        due(x.judge(1, 2), NOT);
        due(x.leads(255, 9, 0), STATE);
        due(x.reach(20, 1), 1);
        due(x.cause(0), NONE);
    }

    static void p17_theyStayTillAnotherCallIsEndedSo() {
        CutOffFilter x = halting();
        due(x.step(8), HALTED);
        causes(x, 0, 0, 8);
        due(x.step(1), 1);
        due(x.set(6, 0, 0), 4);
        due(x.undo(), 2);
        due(x.image(), 9 * 16 + 8);
        due(x.back(), 9 * 16 + 8);
        due(x.step(100), NO);
        due(x.go(0), MISSING);
        causes(x, 0, 0, 8);
        // from 1 on 4, 6, 5, and 9 is no WORD
        due(x.go(1), 3);
        causes(x, 3, 0, 9);
        due(x.measure(1, 2000000000), ENDED);
        causes(x, 0, 0, 8);
        due(read(x, "x2;x9"), -201);
        causes(x, 0, 0, 16);
    }

    // ---- promises 18 and 19: starts, code

    static void p18_theStartsOfEachShape() {
        int[] due = {4, 8, 16, 32, 16, 64, 256, 1024, 64, 512};
        for (int i = 0; i < SHAPES.length; i++) {
            due(shape(SHAPES[i][0], SHAPES[i][1]).starts(), due[i]);
        }
    }

    static void p18_changesNothing() {
        changesNothing(x -> due(x.starts(), 256));
    }

    static void p19_theLeastTheGreatestAndTheFirstCodeOfEachShape() {
        int[] all0 = {2, 4, 8, 16, 10, 36, 136, 528, 42, 292};
        for (int i = 0; i < SHAPES.length; i++) {
            int order = SHAPES[i][0];
            int half = 1 << (SHAPES[i][1] - 1);
            CutOffFilter x = shape(order, SHAPES[i][1]);
            due(x.code(), all0[i]);
            for (int k = 1; k <= order; k++) {
                due(x.past(k, -half), 0);
            }
            due(x.code(), 0);
            for (int k = 1; k <= order; k++) {
                due(x.past(k, half - 1), -half);
            }
            due(x.code(), x.starts() - 1);
        }
    }

    static void p19_word1IsTheHighestDigit() {
        CutOffFilter x = by("b5;y1,-16;y2,15");
        due(x.code(), 31);
        due(read(x, "y1,15;y2,-16"), 2);
        due(x.code(), 31 * 32);
    }

    static void p19_changesNothing() {
        changesNothing(x -> due(x.code(), 13 * 16 + 2));
    }

    // ---- promise 20: next

    static void p20_codesFrom0ToTheLastOfEachShape() {
        for (int[] told : SHAPES) {
            CutOffFilter x = shape(told[0], told[1]);
            int starts = x.starts();
            int base = 1 << told[1];
            // the output 0 comes to be the highest digit, all others move on by one
            due(x.next(0, 0), starts / 2);
            due(x.next(starts - 1, 0), starts / 2 + starts / base - 1);
            due(x.next(-1, 0), BAD);
            due(x.next(starts, 0), BAD);
            for (int end : ENDS) {
                due(x.next(end, 0), BAD);
            }
        }
    }

    static void p20_inputsFrom99BelowTo99() {
        CutOffFilter x = new CutOffFilter();
        due(x.next(136, 99), 11 * 16 + 8);
        due(x.next(136, -99), 5 * 16 + 8);
        due(x.next(136, 100), BAD);
        due(x.next(136, -100), BAD);
        for (int end : ENDS) {
            due(x.next(136, end), BAD);
        }
    }

    static void p20_itHalts() {
        CutOffFilter x = by("o4;c1,1");
        due(x.next(15 * 16 + 8, 0), 15 * 16 + 15);
        due(x.next(15 * 16 + 8, 1), STATE);
        due(x.next(8, 0), 0);
        due(x.next(8, -1), STATE);
    }

    static void p20_ofSeveralTheFirst() {
        CutOffFilter x = by("o4");
        due(x.next(256, 99), BAD);
        due(x.next(-1, 99), BAD);
        due(x.next(0, 100), BAD);
    }

    static void p20_wrapFromBothSides() {
        CutOffFilter x = by("c1,1");
        due(x.next(15 * 16 + 8, 1), 15);
        due(x.next(8, -1), 15 * 16);
    }

    static void p20_stayIsWord1OfThatStart() {
        CutOffFilter x = by("o3;y1,7");
        due(x.next(3 * 16 + 9, 50), 3 * 16 + 3);
    }

    static void p20_changesNothing() {
        changesNothing(x -> {
            due(x.next(13 * 16 + 2, 0), 15 * 16 + 13);
            due(x.next(0, 99), STATE);
            due(x.next(256, 0), BAD);
            due(x.next(0, 100), BAD);
        });
    }

    // ---- promise 21: leads

    private static void leads(CutOffFilter x, int code, int input, int... due) {
        for (int what = 0; what < 3; what++) {
            due(x.leads(code, input, what), due[what]);
        }
    }

    static void p21_codesFrom0ToTheLastOfEachShape() {
        for (int[] told : SHAPES) {
            CutOffFilter x = shape(told[0], told[1]);
            int starts = x.starts();
            leads(x, 0, 0, told[0], 1, 0);
            leads(x, starts - 1, 0, told[0], 1, 0);
            due(x.leads(-1, 0, 0), BAD);
            due(x.leads(starts, 0, 0), BAD);
            for (int end : ENDS) {
                due(x.leads(end, 0, 0), BAD);
            }
        }
    }

    static void p21_inputsFrom99BelowTo99() {
        CutOffFilter x = new CutOffFilter();
        due(x.leads(0, 99, 0), 2);
        due(x.leads(0, -99, 0), 2);
        due(x.leads(0, 100, 0), BAD);
        due(x.leads(0, -100, 0), BAD);
        for (int end : ENDS) {
            due(x.leads(0, end, 0), BAD);
        }
    }

    static void p21_whatFrom0To2() {
        CutOffFilter x = new CutOffFilter();
        due(x.leads(0, 0, -1), BAD);
        due(x.leads(0, 0, 3), BAD);
        for (int end : ENDS) {
            due(x.leads(0, 0, end), BAD);
        }
    }

    static void p21_aStartThatIsStuck() {
        // y = 2 y1 by HALT: 0 alone stays
        CutOffFilter x = by("n1;b5;o4;c1,2");
        leads(x, 16, 0, 0, 1, 0);
        for (int what = 0; what < 3; what++) {
            due(x.leads(0, 0, what), STATE);
            due(x.leads(15, 0, what), STATE);
            due(x.leads(17, 0, what), STATE);
            due(x.leads(31, 0, what), STATE);
        }
    }

    static void p21_ofSeveralTheFirst() {
        CutOffFilter x = by("n1;o4");
        due(x.leads(0, 99, 0), STATE);
        due(x.leads(16, 99, 0), BAD);
        due(x.leads(0, 99, 3), BAD);
    }

    static void p21_ofAPastOnACycleTailIs0() {
        // y = y1 + 1 by WRAP: all 32 go round together
        CutOffFilter x = by("n1;b5;c1,1");
        for (int code = 0; code < 32; code++) {
            leads(x, code, 1, 0, 32, 0);
        }
    }

    static void p21_theGreatestTailOfAll() {
        // y = y1 - 1 by CLIP: -16 stays
        CutOffFilter x = by("n1;b5;c1,1;o1");
        for (int code = 0; code < 32; code++) {
            leads(x, code, -1, code, 1, 0);
            leads(x, code, 1, 31 - code, 1, 0);
        }
    }

    static void p21_theGreatestNumberOfACycle() {
        CutOffFilter x = by("n1;b5;c1,1");
        leads(x, 0, 0, 0, 1, 0);
        leads(x, 31, 0, 0, 1, 31);
        // y = y2: 1023 is a CYCLE of its own, with 32 such ones and 496 of two
        x = by("b5;c2,1");
        leads(x, 1023, 0, 0, 1, 527);
        leads(x, 31, 0, 0, 2, 31);
        leads(x, 31 * 32, 0, 0, 2, 31);
    }

    static void p21_changesNothing() {
        changesNothing(x -> {
            due(x.leads(0, 99, 0), STATE);
            due(x.leads(256, 0, 0), BAD);
            due(x.leads(0, 100, 0), BAD);
            due(x.leads(136, 0, 0), 0);
        });
    }

    // ---- promise 22: cycles

    private static void cycles(CutOffFilter x, int input, int... due) {
        for (int what = 0; what < 5; what++) {
            due(x.cycles(input, what), due[what]);
        }
    }

    static void p22_inputsFrom99BelowTo99() {
        CutOffFilter x = new CutOffFilter();
        cycles(x, 99, 1, 0, 2, 3, 1);
        cycles(x, -99, 1, 0, 2, 3, 1);
        due(x.cycles(100, 0), BAD);
        due(x.cycles(-100, 0), BAD);
        for (int end : ENDS) {
            due(x.cycles(end, 0), BAD);
        }
    }

    static void p22_whatFrom0To4() {
        CutOffFilter x = new CutOffFilter();
        due(x.cycles(0, -1), BAD);
        due(x.cycles(0, 5), BAD);
        for (int end : ENDS) {
            due(x.cycles(0, end), BAD);
        }
    }

    static void p22_noCycles() {
        for (int[] told : SHAPES) {
            CutOffFilter x = shape(told[0], told[1]);
            due(x.set(6, 0, 4), 0);
            cycles(x, 99, 0, x.starts(), 0, 99, 0);
        }
    }

    static void p22_noneIsStuck() {
        for (int[] told : SHAPES) {
            CutOffFilter x = shape(told[0], told[1]);
            cycles(x, 0, 1, 0, told[0], 0, 1);
        }
    }

    static void p22_asManyCyclesAsStarts() {
        cycles(by("n1;b5;c1,1"), 0, 32, 0, 0, 16, 32);
        cycles(by("n1;b2;c1,1"), 0, 4, 0, 0, 2, 4);
    }

    static void p22_allPastsOnCycles() {
        cycles(by("b5;c2,1"), 0, 528, 0, 0, 16, 1024);
        cycles(by("n1;b5;c1,1"), 1, 1, 0, 0, 16, 32);
    }

    static void p22_theStuckOnesHaveNoTail() {
        // y = 3 y1 / 2 by DOWN and HALT: 2, 3, 4, 6, 9, 13, and -1, -2, -3, -5, -8, -12 HALT; 0 and 1 stay
        cycles(by("n1;b5;o4;c1,3;s1"), 0, 2, 30, 0, 1, 2);
    }

    static void p22_theGreatestTail() {
        cycles(by("n1;b5;c1,1;o1"), -1, 1, 0, 31, 16, 1);
        cycles(by("n1;b5;c1,1;o1"), 1, 1, 0, 31, 15, 1);
    }

    static void p22_amplitudeIsOfCyclesAlone() {
        // y = y1 / 2 by CUT: from -16 and 15 to 0
        cycles(by("n1;b5;c1,1;s1;r1"), 0, 1, 0, 5, 0, 1);
    }

    static void p22_changesNothing() {
        changesNothing(x -> {
            due(x.cycles(99, 0), 0);
            due(x.cycles(99, 1), 256);
            due(x.cycles(100, 0), BAD);
            due(x.cycles(0, 5), BAD);
        });
    }

    static void p22_anotherNumberOrInputIsAnotherAnswer() {
        CutOffFilter x = by("n1;c1,1");
        cycles(x, 0, 16, 0, 0, 8, 16);
        cycles(x, 1, 1, 0, 0, 8, 16);
        due(x.set(6, 0, 1), 0);
        cycles(x, 1, 1, 0, 15, 7, 1);
        due(x.undo(), 2);
        cycles(x, 1, 1, 0, 0, 8, 16);
        due(x.set(1, 0, 2), 4);
        cycles(x, 1, 1, 0, 0, 2, 4);
        due(x.quietest(1, 1), 2);
        due(x.tamed(1, 1), 98);
        cycles(x, 1, 1, 0, 0, 2, 4);
    }

    // ---- promise 23: cycle

    private static void cycle(CutOffFilter x, int input, int k, int... due) {
        for (int what = 0; what < 4; what++) {
            due(x.cycle(input, k, what), due[what]);
        }
    }

    static void p23_inputsFrom99BelowTo99() {
        CutOffFilter x = new CutOffFilter();
        cycle(x, 99, 0, 11 * 17, 1, 3, 256);
        cycle(x, -99, 0, 5 * 17, 1, 3, 256);
        due(x.cycle(100, 0, 0), BAD);
        due(x.cycle(-100, 0, 0), BAD);
        for (int end : ENDS) {
            due(x.cycle(end, 0, 0), BAD);
        }
    }

    static void p23_cyclesFrom0ToTheLast() {
        CutOffFilter x = by("n1;b5;c1,1");
        due(x.cycle(0, -1, 0), NOT);
        cycle(x, 0, 0, 0, 1, 16, 1);
        cycle(x, 0, 31, 31, 1, 15, 1);
        due(x.cycle(0, 32, 0), NOT);
        for (int end : ENDS) {
            due(x.cycle(0, end, 0), NOT);
        }
    }

    static void p23_whatFrom0To3() {
        CutOffFilter x = new CutOffFilter();
        due(x.cycle(0, 0, -1), BAD);
        due(x.cycle(0, 0, 4), BAD);
        for (int end : ENDS) {
            due(x.cycle(0, 0, end), BAD);
        }
    }

    static void p23_noCycles() {
        CutOffFilter x = by("o4");
        cycle(x, 99, 0, NOT, NOT, NOT, NOT);
        cycle(x, 99, -1, NOT, NOT, NOT, NOT);
    }

    static void p23_ofSeveralTheFirst() {
        CutOffFilter x = new CutOffFilter();
        due(x.cycle(100, 5, 0), BAD);
        due(x.cycle(0, 5, 4), BAD);
        due(x.cycle(0, -1, -1), BAD);
    }

    static void p23_theGreatestPeriodAndBasin() {
        CutOffFilter x = by("n1;b5;c1,1");
        cycle(x, 1, 0, 0, 32, 16, 32);
        x = by("b5");
        cycle(x, 15, 0, 1023, 1, 15, 1024);
        cycle(x, -16, 0, 0, 1, 16, 1024);
    }

    static void p23_theLeastCodeIsNotWhereTheFirstStartComes() {
        // y = - y1 by CLIP: from -2 (CODE 0) to 1 (3), then -1 (1) and 1 go round
        CutOffFilter x = by("n1;b2;o1;c1,-1");
        cycle(x, 0, 0, 1, 2, 1, 3);
        cycle(x, 0, 1, 2, 1, 0, 1);
        due(x.onCycle(0, 0, 0), 1);
        due(x.onCycle(0, 0, 1), 3);
    }

    static void p23_stuckStartsAreInNoBasin() {
        CutOffFilter x = by("n1;b5;o4;c1,2");
        cycle(x, 0, 0, 16, 1, 0, 1);
        due(x.cycle(0, 1, 0), NOT);
    }

    static void p23_changesNothing() {
        changesNothing(x -> {
            due(x.cycle(99, 0, 0), NOT);
            due(x.cycle(0, 0, 4), BAD);
            due(x.cycle(100, 0, 0), BAD);
        });
    }

    // ---- promise 24: onCycle

    static void p24_inputsFrom99BelowTo99() {
        CutOffFilter x = new CutOffFilter();
        due(x.onCycle(99, 0, 0), 11 * 17);
        due(x.onCycle(-99, 0, 0), 5 * 17);
        due(x.onCycle(100, 0, 0), BAD);
        due(x.onCycle(-100, 0, 0), BAD);
        for (int end : ENDS) {
            due(x.onCycle(end, 0, 0), BAD);
        }
    }

    static void p24_cyclesFrom0ToTheLast() {
        CutOffFilter x = by("n1;b5;c1,1");
        due(x.onCycle(0, -1, 0), NOT);
        due(x.onCycle(0, 0, 0), 0);
        due(x.onCycle(0, 31, 0), 31);
        due(x.onCycle(0, 32, 0), NOT);
        for (int end : ENDS) {
            due(x.onCycle(0, end, 0), NOT);
        }
    }

    static void p24_stepsFrom0On() {
        // y = y1 + 1 by WRAP: 0, 1, 2, 3 and round again
        CutOffFilter x = by("n1;b2;c1,1");
        due(x.onCycle(1, 0, -1), BAD);
        due(x.onCycle(1, 0, LOW), BAD);
        due(x.onCycle(1, 0, 0), 0);
        due(x.onCycle(1, 0, 3), 3);
        due(x.onCycle(1, 0, 4), 0);
        due(x.onCycle(1, 0, HIGH - 1), 2);
        due(x.onCycle(1, 0, HIGH), 3);
        x = by("n1;b5;c1,1");
        due(x.onCycle(1, 0, 31), 31);
        due(x.onCycle(1, 0, 32), 0);
        due(x.onCycle(1, 0, HIGH), 31);
    }

    static void p24_noCycles() {
        CutOffFilter x = by("o4");
        due(x.onCycle(99, 0, 0), NOT);
        due(x.onCycle(99, 0, HIGH), NOT);
    }

    static void p24_ofSeveralTheFirst() {
        CutOffFilter x = by("o4");
        due(x.onCycle(100, 0, 0), BAD);
        due(x.onCycle(99, 0, -1), BAD);
        due(x.onCycle(99, 7, -1), BAD);
    }

    static void p24_changesNothing() {
        changesNothing(x -> {
            due(x.onCycle(99, 0, 0), NOT);
            due(x.onCycle(0, 0, -1), BAD);
            due(x.onCycle(100, 0, 0), BAD);
        });
    }

    // ---- promise 25: reach

    static void p25_boundsFrom0To20() {
        CutOffFilter x = new CutOffFilter();
        due(x.reach(-1, 0), BAD);
        due(x.reach(0, 0), 1);
        due(x.reach(20, 0), 256);
        due(x.reach(21, 0), BAD);
        for (int end : ENDS) {
            due(x.reach(end, 0), BAD);
        }
    }

    static void p25_whatFrom0To1() {
        CutOffFilter x = new CutOffFilter();
        due(x.reach(1, -1), BAD);
        due(x.reach(1, 2), BAD);
        for (int end : ENDS) {
            due(x.reach(1, end), BAD);
        }
    }

    private static void reaches(CutOffFilter x, int b, int pasts, int over) {
        due(x.reach(b, 0), pasts);
        due(x.reach(b, 1), over);
    }

    static void p25_thatOfAll0AtLeast() {
        for (int[] told : SHAPES) {
            CutOffFilter x = shape(told[0], told[1]);
            reaches(x, 0, 1, 0);
            // 99 and its like are OVER, and nothing comes by HALT, but by 0
            due(read(x, "i99;o4"), 2);
            reaches(x, 20, 1, 1);
        }
    }

    static void p25_allPastsAtMost() {
        for (int[] told : SHAPES) {
            CutOffFilter x = shape(told[0], told[1]);
            reaches(x, 20, x.starts(), 1);
        }
    }

    static void p25_theGreatestInputsThatAreNotOver() {
        CutOffFilter x = by("b5");
        reaches(x, 15, 961, 0);
        reaches(x, 16, 1024, 1);
        due(x.set(6, 0, 4), 0);
        reaches(x, 15, 961, 0);
        // 16 HALTS, -16 does not
        reaches(x, 16, 1024, 1);
        due(x.set(6, 0, 2), 4);
        reaches(x, 16, 1024, 1);
        x = by("n1;b2");
        reaches(x, 1, 3, 0);
        reaches(x, 2, 4, 1);
    }

    static void p25_pastsThatDoNotComePlayNoPart() {
        // y = 2 y1 is OVER from 4 on, but by the INPUT 0 nothing comes of 0
        CutOffFilter x = by("n1;c1,2;y1,7");
        reaches(x, 0, 1, 0);
        reaches(x, 1, 16, 1);
        words(x, 7);
    }

    static void p25_theLastPastThatComesIsLookedAt() {
        // y = x + y1 / 2 by CUT: by 3 up to 5, by 4 up to 7, by 5 from 7 on 8.5, and from -8 on -9
        CutOffFilter x = by("n1;o4;c1,1;s1;r1;i2");
        reaches(x, 3, 11, 0);
        reaches(x, 4, 15, 0);
        reaches(x, 5, 16, 1);
    }

    static void p25_changesNothing() {
        changesNothing(x -> {
            due(x.reach(20, 1), 1);
            due(x.reach(21, 0), BAD);
            due(x.reach(0, 2), BAD);
        });
    }

    // ---- promise 26: scale

    static void p26_boundsFrom0To20() {
        CutOffFilter x = new CutOffFilter();
        due(x.scale(-1), BAD);
        due(x.scale(0), 0);
        due(x.scale(20), 2);
        due(x.scale(21), BAD);
        for (int end : ENDS) {
            due(x.scale(end), BAD);
        }
    }

    static void p26_theGreatestBoundOfEachScale() {
        // WORDS -2 .. 1: 1 alone, from both sides, is not OVER
        CutOffFilter x = by("n1;b2");
        int[] due = {0, 0, 1, 1, 2, 2, 2, 2, 3, 3, 3, 3, 3, 3, 3, 3, 4, 4, 4, 4, 4};
        for (int b = 0; b <= 20; b++) {
            due(x.scale(b), due[b]);
        }
    }

    static void p26_theGreatestScale() {
        // only by the INPUT 0 nothing is OVER: 16 and above by 32 are 0
        CutOffFilter x = by("i99");
        int[] due = {0, 1, 2, 2, 3, 3, 3, 3, 4, 4, 4, 4, 4, 4, 4, 4, 5, 5, 5, 5, 5};
        for (int b = 0; b <= 20; b++) {
            due(x.scale(b), due[b]);
        }
    }

    static void p26_theLeastScale() {
        CutOffFilter x = by("i0;c1,99;c2,-99");
        for (int b = 0; b <= 20; b++) {
            due(x.scale(b), 0);
        }
        x = by("b5");
        due(x.scale(15), 0);
        due(x.scale(16), 1);
    }

    static void p26_changesNothing() {
        changesNothing(x -> {
            due(x.scale(20), 4);
            due(x.scale(21), BAD);
            due(x.scale(-1), BAD);
        });
    }

    // ---- promise 27: quietest

    private static void quietest(CutOffFilter x, int input, int rounding, int amplitude) {
        due(x.quietest(input, 0), rounding);
        due(x.quietest(input, 1), amplitude);
    }

    static void p27_inputsFrom99BelowTo99() {
        CutOffFilter x = new CutOffFilter();
        quietest(x, 99, 0, 3);
        quietest(x, -99, 0, 3);
        due(x.quietest(100, 0), BAD);
        due(x.quietest(-100, 0), BAD);
        for (int end : ENDS) {
            due(x.quietest(end, 0), BAD);
        }
    }

    static void p27_whatFrom0To1() {
        CutOffFilter x = new CutOffFilter();
        due(x.quietest(0, -1), BAD);
        due(x.quietest(0, 2), BAD);
        for (int end : ENDS) {
            due(x.quietest(0, end), BAD);
        }
    }

    static void p27_noCyclesByAny() {
        quietest(by("o4"), 99, 0, 99);
    }

    static void p27_noCyclesByTheFirstIsMoreThanTheGreatestAmplitude() {
        // -33 by 2: by DOWN -17 HALTS, by CUT -16 stays
        quietest(by("n1;b5;o4;s1"), -33, 1, 16);
    }

    static void p27_ofLikeOnesTheFirst() {
        quietest(by("n1;r4"), 5, 0, 5);
        // 15 by 2, by ZERO: DOWN, CUT 7; NEAR, EVEN, AWAY 8, that is 0
        quietest(by("n1;o2;s1"), 15, 2, 0);
        quietest(by("n1;o2;s1;r4"), 15, 2, 0);
    }

    static void p27_theLastAlone() {
        // 29 by 4, by ZERO: 7 by all, but by AWAY 8, that is 0
        quietest(by("n1;o2;s2"), 29, 4, 0);
    }

    static void p27_changesNothing() {
        changesNothing(x -> {
            quietest(x, 99, 0, 99);
            due(x.quietest(100, 0), BAD);
            due(x.quietest(0, 2), BAD);
        });
    }

    // ---- promise 28: tamed

    static void p28_inputsFrom99BelowTo99() {
        CutOffFilter x = by("n1;b2");
        due(x.tamed(99, 2), 99);
        due(x.tamed(-99, 2), 99);
        due(x.tamed(100, 2), NO);
        due(x.tamed(-100, 2), NO);
        for (int end : ENDS) {
            due(x.tamed(end, 2), NO);
        }
    }

    static void p28_amplitudesFrom0To99() {
        CutOffFilter x = by("n1;b2");
        due(x.tamed(0, -1), NO);
        due(x.tamed(0, 0), 98);
        due(x.tamed(0, 99), 99);
        due(x.tamed(0, 100), NO);
        for (int end : ENDS) {
            due(x.tamed(0, end), NO);
        }
    }

    static void p28_theGreatestNumberOfAll() {
        due(by("n1;b5").tamed(0, 16), 99);
        due(by("c1,-5").tamed(0, 8), 99);
    }

    static void p28_theLeastNumberOfAll() {
        // -410 by 4 products apart: only -99 times -16 by 4, 396, comes near enough; else -16 stays as it is
        CutOffFilter x = by("n1;b5;i41;s2;r4;o3;p1");
        due(x.tamed(-40, 15), -99);
        due(x.tamed(-40, 14), NONE);
        due(x.tamed(-40, 16), 99);
    }

    static void p28_anAmplitudeOfAIsTamed() {
        // y = c y1 / 4 by DOWN and CLIP: by 3 -3 stays, by 2 -1 does
        CutOffFilter x = by("n1;s2;o1");
        due(x.tamed(0, 2), 2);
        due(x.tamed(0, 3), 3);
    }

    static void p28_noStartMayBeStuck() {
        // y = c y1 by HALT: 1 is the greatest, all stay, -8, too
        CutOffFilter x = by("n1;o4");
        due(x.tamed(0, 99), 1);
        due(x.tamed(0, 8), 1);
        due(x.tamed(0, 7), 0);
        due(x.tamed(0, 0), 0);
    }

    static void p28_thereIsNone() {
        due(by("n1;o4").tamed(99, 99), NONE);
        due(by("n1").tamed(1, 0), NONE);
    }

    static void p28_changesNothing() {
        changesNothing(x -> {
            due(x.tamed(99, 99), NONE);
            due(x.tamed(100, 0), NO);
            due(x.tamed(0, 100), NO);
        });
    }

    // ---- promise 29: lost

    private static void lost(CutOffFilter x, int input, long above, long below) {
        due(x.lost(input, 0), above);
        due(x.lost(input, 1), below);
    }

    static void p29_inputsFrom99BelowTo99() {
        CutOffFilter x = by("s6");
        lost(x, 99, 35, 64);
        lost(x, -99, 29, 64);
        due(x.lost(100, 0), VOID);
        due(x.lost(-100, 1), VOID);
        for (int end : ENDS) {
            due(x.lost(end, 0), VOID);
        }
    }

    static void p29_partsFrom0To1() {
        CutOffFilter x = new CutOffFilter();
        due(x.lost(0, -1), VOID);
        due(x.lost(0, 2), VOID);
        for (int end : ENDS) {
            due(x.lost(0, end), VOID);
        }
    }

    static void p29_0Is0Over1() {
        for (int[] told : SHAPES) {
            lost(shape(told[0], told[1]), 99, 0, 1);
        }
        lost(by("s6;b5"), 64, 0, 1);
    }

    static void p29_haltingOnesToo() {
        lost(by("n1;s6;o4;b2"), 63, 63, 64);
        // 99 by 2 is 49: all HALT
        lost(by("n1;s1;o4;b2"), 99, 1, 2);
        // y1 / 2 + 49.5: from -1 and 1 nothing is lost
        lost(by("n1;s1;o4;b2;c1,1"), 99, 1, 4);
    }

    static void p29_thePastPlaysNoPart() {
        CutOffFilter x = by("n1;b2;s1;c1,1;y1,1");
        lost(x, 0, 1, 4);
        due(x.past(1, -2), 1);
        lost(x, 0, 1, 4);
    }

    static void p29_lowestTerms() {
        lost(by("b5;s6;r4;p1"), 1, 63, 64);
        lost(by("n1;b2;s3"), 4, 1, 2);
        // products apart, 1/2 lost of the INPUT and of each odd WORD, that is every other one
        lost(by("b2;s1;p1;c1,1;c2,1"), 1, 1, 1);
        lost(by("b2;n3;s1;p1;c1,1;c2,1;c3,1"), 1, 5, 4);
    }

    static void p29_changesNothing() {
        changesNothing(x -> {
            due(x.lost(100, 0), VOID);
            due(x.lost(0, 2), VOID);
            due(x.lost(99, 1) > 0 ? 1 : 0, 1);
        });
    }

    // ---- promise 30: fits

    private static void fits(CutOffFilter x, int in, int out, int... due) {
        for (int what = 0; what < 6; what++) {
            due(x.fits(in, out, what), due[what]);
        }
    }

    static void p30_rowsFrom0To3() {
        CutOffFilter x = new CutOffFilter();
        fill(x, 0, 0, 5);
        fill(x, 3, 0, 5);
        due(x.fits(0, 3, 0), 31);
        due(x.fits(3, 0, 0), 31);
        due(x.fits(-1, 0, 0), NO);
        due(x.fits(4, 0, 0), NO);
        due(x.fits(0, -1, 0), NO);
        due(x.fits(0, 4, 0), NO);
        for (int end : ENDS) {
            due(x.fits(end, 0, 0), NO);
            due(x.fits(0, end, 0), NO);
        }
    }

    static void p30_whatFrom0To5() {
        CutOffFilter x = new CutOffFilter();
        fill(x, 0, 0, 5);
        due(x.fits(0, 0, -1), NO);
        due(x.fits(0, 0, 6), NO);
        for (int end : ENDS) {
            due(x.fits(0, 0, end), NO);
        }
    }

    static void p30_eitherRowIsMissing() {
        CutOffFilter x = new CutOffFilter();
        fill(x, 0, 0, 5);
        for (int what = 0; what < 6; what++) {
            due(x.fits(0, 1, what), MISSED);
            due(x.fits(1, 0, what), MISSED);
            due(x.fits(1, 1, what), MISSED);
        }
    }

    static void p30_ofSeveralTheFirst() {
        CutOffFilter x = new CutOffFilter();
        due(x.fits(0, 4, 0), NO);
        due(x.fits(-1, 0, 0), NO);
        due(x.fits(0, 1, 6), NO);
        due(x.fits(0, 1, -1), NO);
    }

    static void p30_outputsOf0NumbersAreHadByAll() {
        CutOffFilter x = by("o4");
        due(x.row(1, 2, 0), 1);
        fill(x, 0, 0, 99, 99);
        fits(x, 0, 1, 31, 31, 127, 3, 199, -99);
        due(x.row(0, 0, 0), 1);
        fits(x, 0, 1, 31, 31, 127, 3, 199, -99);
    }

    static void p30_aRunOfNoStepHasNoOutputs() {
        CutOffFilter x = new CutOffFilter();
        due(x.row(0, 0, 0), 1);
        fill(x, 1, 0, 0);
        fits(x, 0, 1, 0, 0, 0, 0, 0, NONE);
    }

    static void p30_oneThatIsShorterHasNot() {
        CutOffFilter x = new CutOffFilter();
        fill(x, 0, 0, 1, 2);
        fill(x, 1, 0, 1, 2, 0);
        fits(x, 0, 1, 0, 0, 0, 0, 0, NONE);
        fill(x, 0, 0, 1, 2, 0);
        // 2 + c is 2 by each c that is a multiple of 16
        fits(x, 0, 1, 31, 31, 1, 3, 13, -96);
    }

    static void p30_oneThatHaltsIsShorter() {
        CutOffFilter x = new CutOffFilter();
        fill(x, 0, 0, 7, 8);
        fill(x, 1, 0, 7, 7);
        due(x.fits(0, 1, 1), 2 + 8);
        fill(x, 1, 0, 7);
        due(x.fits(0, 1, 1), 31);
    }

    static void p30_rowsOf40Numbers() {
        CutOffFilter x = new CutOffFilter();
        fill40(x, 0, 0, 0, 5);
        fill40(x, 1, 0, 0, 5);
        fits(x, 0, 1, 31, 31, 1, 3, 199, -99);
        due(x.put(1, 39, 6), 1);
        fits(x, 0, 1, 0, 0, 0, 0, 0, NONE);
    }

    static void p30_theFirstAndTheLastRounding() {
        CutOffFilter x = by("s2");
        // -3 and 3 by 4, by DOWN alone -1 and 0
        fill(x, 0, 0, -3, 3);
        fill(x, 1, 0, -1, 0);
        due(x.fits(0, 1, 0), 1);
        // 29 by 4, by AWAY alone 8, that is -8
        fill(x, 0, 0, 29);
        fill(x, 1, 0, -8);
        due(x.fits(0, 1, 0), 16);
    }

    static void p30_eachOverflow() {
        CutOffFilter x = by("y1,3");
        fill(x, 0, 0, 8);
        int[] outputs = {-8, 7, 0, 3};
        for (int kind = 0; kind < 4; kind++) {
            fill(x, 1, 0, outputs[kind]);
            due(x.fits(0, 1, 1), 1 << kind);
        }
        fill(x, 1, 0, 5);
        due(x.fits(0, 1, 1), 0);
    }

    static void p30_theFirstAndTheLastShift() {
        CutOffFilter x = by("o1");
        fill(x, 0, 0, 64);
        fill(x, 1, 0, 1);
        due(x.fits(0, 1, 2), 64);
        fill(x, 1, 0, 2);
        due(x.fits(0, 1, 2), 32);
        fill(x, 0, 0, 5);
        fill(x, 1, 0, 5);
        due(x.fits(0, 1, 2), 1);
    }

    static void p30_eachPlace() {
        // 1 and 1 by 2: together 1, apart 0
        CutOffFilter x = by("s1;c1,1;y1,1");
        fill(x, 0, 0, 1);
        fill(x, 1, 0, 1);
        due(x.fits(0, 1, 3), 1);
        fill(x, 1, 0, 0);
        due(x.fits(0, 1, 3), 2);
        fill(x, 1, 0, 2);
        due(x.fits(0, 1, 3), 0);
    }

    static void p30_theLeastAndTheGreatestCoefficient() {
        // 99 + c and -99 + c by CLIP: 0 by one number alone
        CutOffFilter x = by("o1;y1,1");
        fill(x, 0, 0, 99);
        fill(x, 1, 0, 0);
        due(x.fits(0, 1, 4), 1);
        due(x.fits(0, 1, 5), -99);
        fill(x, 0, 0, -99);
        due(x.fits(0, 1, 4), 1);
        due(x.fits(0, 1, 5), 99);
        // 0 + c by CLIP: 7 by 7 .. 99, -8 by -99 .. -8
        fill(x, 0, 0, 0);
        fill(x, 1, 0, 7);
        due(x.fits(0, 1, 4), 93);
        due(x.fits(0, 1, 5), 7);
        fill(x, 1, 0, -8);
        due(x.fits(0, 1, 4), 92);
        due(x.fits(0, 1, 5), -99);
    }

    static void p30_whatIsNoWordIsNoOutput() {
        CutOffFilter x = new CutOffFilter();
        fill(x, 0, 0, 5);
        fill(x, 1, 2, (1L << 32) + 5);
        fits(x, 0, 1, 0, 0, 0, 0, 0, NONE);
        fill(x, 1, 1, 256 + 5);
        fits(x, 0, 1, 0, 0, 0, 0, 0, NONE);
        fill(x, 1, 2, Long.MIN_VALUE + 5);
        fits(x, 0, 1, 0, 0, 0, 0, 0, NONE);
    }

    static void p30_inputsBeyond99CountAs99() {
        CutOffFilter x = new CutOffFilter();
        fill(x, 0, 1, 100, LOW);
        fill(x, 1, 0, 3, -3);
        due(x.fits(0, 1, 0), 31);
    }

    static void p30_changesNothing() {
        changesNothing(x -> {
            due(x.fits(0, 0, 4), 0);
            due(x.fits(0, 3, 0), MISSED);
            due(x.fits(0, 4, 0), NO);
            due(x.fits(0, 0, 6), NO);
        });
    }

    // ---- promise 31: judge

    static void p31_rowsFrom0To3() {
        CutOffFilter x = new CutOffFilter();
        fill(x, 0, 0, 5);
        fill(x, 3, 0, 5);
        due(x.judge(0, 3), NOT);
        due(x.judge(3, 0), NOT);
        due(x.judge(-1, 0), BAD);
        due(x.judge(4, 0), BAD);
        due(x.judge(0, -1), BAD);
        due(x.judge(0, 4), BAD);
        for (int end : ENDS) {
            due(x.judge(end, 0), BAD);
            due(x.judge(0, end), BAD);
        }
    }

    static void p31_eitherRowIsMissing() {
        CutOffFilter x = new CutOffFilter();
        fill(x, 0, 0, 5);
        due(x.judge(0, 1), MISSING);
        due(x.judge(1, 0), MISSING);
        due(x.judge(1, 1), MISSING);
    }

    static void p31_ofSeveralTheFirst() {
        CutOffFilter x = new CutOffFilter();
        due(x.judge(0, 4), BAD);
        due(x.judge(-1, 0), BAD);
    }

    static void p31_theFirstAndTheLastPlace() {
        CutOffFilter x = new CutOffFilter();
        fill40(x, 0, 0, 1, 2);
        fill40(x, 1, 0, 1, 2);
        due(x.judge(0, 1), NOT);
        due(x.put(1, 39, 1), 1);
        due(x.judge(0, 1), 39);
        due(x.put(1, 0, 2), 1);
        due(x.judge(0, 1), 0);
    }

    static void p31_oneMoreThanThatHas() {
        CutOffFilter x = new CutOffFilter();
        fill(x, 0, 0, 1, 2);
        fill(x, 1, 0, 1, 2, 3, 4);
        due(x.judge(0, 1), 2);
        due(x.row(0, 0, 0), 1);
        due(x.judge(0, 1), 0);
    }

    static void p31_oneMoreThanARunThatHaltsHas() {
        CutOffFilter x = halting();
        fill(x, 0, 0, 3, 5, 4, 8, 9);
        due(x.judge(1, 0), 3);
        fill(x, 0, 0, 3, 5, 4);
        due(x.judge(1, 0), NOT);
        fill(x, 1, 0, 8);
        due(x.judge(1, 0), 0);
    }

    static void p31_itEndsAheadOfThat() {
        CutOffFilter x = new CutOffFilter();
        fill40(x, 0, 0, 0, 0);
        due(x.row(1, 0, 39), 1);
        due(x.judge(0, 1), 139);
        due(x.row(1, 0, 1), 1);
        due(x.judge(0, 1), 101);
        due(x.row(1, 0, 0), 1);
        due(x.judge(0, 1), 100);
    }

    static void p31_bothOf0Numbers() {
        CutOffFilter x = new CutOffFilter();
        due(x.row(0, 0, 0), 1);
        due(x.row(1, 2, 0), 1);
        due(x.judge(0, 1), NOT);
        due(x.judge(0, 0), NOT);
    }

    static void p31_whatIsNoWordIsAnotherOutput() {
        CutOffFilter x = new CutOffFilter();
        fill(x, 0, 0, 5, 6);
        fill(x, 1, 2, 5, (1L << 32) + 6);
        due(x.judge(0, 1), 1);
        fill(x, 1, 1, 256 + 5, 6);
        due(x.judge(0, 1), 0);
    }

    static void p31_inputsBeyond99CountAs99() {
        CutOffFilter x = new CutOffFilter();
        fill(x, 0, 2, Long.MAX_VALUE, -100);
        fill(x, 1, 0, 3, -3);
        due(x.judge(0, 1), NOT);
    }

    static void p31_changesNothing() {
        changesNothing(x -> {
            due(x.judge(0, 1), 0);
            due(x.judge(0, 3), MISSING);
            due(x.judge(4, 0), BAD);
        });
    }

    // ---- promises 32 and 33: feed, wipe

    static void p32_bytesFrom32To126() {
        CutOffFilter x = new CutOffFilter();
        due(x.feed(31), BAD);
        due(x.feed(127), BAD);
        due(x.feed(0), BAD);
        due(x.feed(-1), BAD);
        due(x.feed(256 + 'x'), BAD);
        for (int end : ENDS) {
            due(x.feed(end), BAD);
        }
        due(x.count(2), 0);
        due(x.feed(32), 1);
        due(x.feed(126), 2);
    }

    static void p32_theEightiethByteAndTheNext() {
        CutOffFilter x = new CutOffFilter();
        for (int i = 1; i <= 80; i++) {
            due(x.feed('x'), i);
        }
        due(x.feed('x'), FULL);
        due(x.feed(126), FULL);
        due(x.count(2), 80);
        due(x.wipe(), 80);
        due(x.feed('x'), 1);
    }

    static void p32_ofSeveralTheFirst() {
        CutOffFilter x = new CutOffFilter();
        for (int i = 1; i <= 80; i++) {
            due(x.feed(' '), i);
        }
        due(x.feed(31), BAD);
        due(x.feed(127), BAD);
        due(x.feed(32), FULL);
    }

    static void p32_whatIsRefusedChangesNothing() {
        changesNothing(x -> {
            due(x.feed(31), BAD);
            due(x.feed(127), BAD);
        });
    }

    static void p32_whatIsRefusedAsItIsFullChangesNothing() {
        CutOffFilter x = new CutOffFilter();
        StringBuilder text = new StringBuilder("s6");
        while (text.length() < 80) {
            text.append(";s6");
        }
        for (int i = 0; i < 80; i++) {
            due(x.feed(text.charAt(i)), i + 1);
        }
        due(x.feed('7'), FULL);
        due(x.read(), 27);
        due(x.of(4, 0), 6);
    }

    static void p33_anEmptyTape() {
        CutOffFilter x = new CutOffFilter();
        due(x.wipe(), 0);
        due(x.wipe(), 0);
        due(x.count(2), 0);
    }

    static void p33_aFullTape() {
        CutOffFilter x = new CutOffFilter();
        for (int i = 1; i <= 80; i++) {
            due(x.feed('q'), i);
        }
        due(x.wipe(), 80);
        due(x.wipe(), 0);
        due(read(x, "s1"), 1);
    }

    static void p33_changesNothingElse() {
        CutOffFilter x = busy();
        due(x.wipe(), 2);
        due(x.feed('s'), 1);
        due(x.feed('9'), 2);
        due(Arrays.equals(state(x), state(busy())) ? 1 : 0, 1);
    }

    // ---- promise 34: read

    /** A FAULT of a text at a place; THE TAPE is empty behind it, and no ACT is done. */
    private static void fault(String text, int place) {
        CutOffFilter x = new CutOffFilter();
        due(read(x, text), -100 - place);
        due(x.count(2), 0);
        due(x.count(0), 0);
        due(x.count(4), 0);
        due(x.code(), 136);
    }

    static void p34_anEmptyTape() { fault("", 0); }

    static void p34_noActBehindAParting() {
        fault(";", 0);
        fault("x1;", 3);
        fault("x1;;x1", 3);
        fault("x1;x1;", 6);
    }

    static void p34_noBlanks() {
        fault(" x1", 0);
        fault("x 1", 1);
        fault("x1 ", 2);
        fault("x1 ;x1", 2);
        fault("x1; x1", 3);
        fault("c1 ,1", 2);
        fault("c1, 1", 3);
        fault("x- 1", 2);
    }

    static void p34_lettersOfNoAct() {
        for (char c = 32; c < 127; c++) {
            if ("nbcisropyx".indexOf(c) < 0) {
                fault(String.valueOf(c), 0);
                fault("x1;" + c, 3);
            }
        }
        fault("X1", 0);
        fault("N1", 0);
        fault("xx1", 1);
    }

    static void p34_aTextThatEndsTooEarly() {
        for (char letter : "nbcisropyx".toCharArray()) {
            fault(String.valueOf(letter), 1);
            fault(letter + "-", 2);
        }
        for (String letter : new String[] {"c", "y"}) {
            fault(letter + "1", 2);
            fault(letter + "12", 3);
            fault(letter + "1,", 3);
            fault(letter + "1,-", 4);
            fault(letter + "-11,", 5);
        }
    }

    static void p34_aThirdFigure() {
        fault("x123", 3);
        fault("x000", 3);
        fault("x-123", 4);
        fault("c123,1", 3);
        fault("c1,123", 5);
        fault("c1,-123", 6);
        fault("c12,-123", 7);
    }

    static void p34_oneOrTwoFigures() {
        CutOffFilter x = new CutOffFilter();
        due(read(x, "s6"), 1);
        due(x.of(4, 0), 6);
        due(read(x, "s05"), 1);
        due(x.of(4, 0), 5);
        due(read(x, "s-0"), 1);
        due(x.of(4, 0), 0);
        due(read(x, "i-00"), 1);
        due(x.of(3, 0), 0);
        due(read(x, "i-09;c01,-99;c03,99"), 3);
        due(x.of(3, 0), -9);
        due(x.of(2, 1), -99);
        due(x.of(2, 3), 99);
    }

    static void p34_aSignAheadAlone() {
        fault("x--1", 2);
        fault("x1-", 2);
        fault("x12-", 3);
        fault("x+1", 1);
        fault("c-1-,1", 3);
        fault("c1,--1", 4);
        fault("-x1", 0);
    }

    static void p34_asManyNumbersAsTheActHas() {
        fault("x1,2", 2);
        fault("x12,2", 3);
        fault("x,", 1);
        fault("c1;", 2);
        fault("c12;", 3);
        fault("c1,2,3", 4);
        fault("c1,23,", 5);
        fault("c,1", 1);
        fault("c1,,", 3);
        fault("y1,2,1", 4);
        fault("y1;x1", 2);
    }

    static void p34_theLongestText() {
        StringBuilder text = new StringBuilder("x1");
        while (text.length() < 80) {
            text.append(";x1");
        }
        CutOffFilter x = new CutOffFilter();
        due(read(x, text.toString()), 27);
        due(x.count(4), 27);
        due(x.count(2), 0);
        fault(text.substring(0, 79) + "-", 80);
        fault(text.substring(0, 79) + "x", 79);
        fault(text.substring(0, 78) + "1x", 78);
        fault(text.substring(0, 79), 79);
    }

    static void p34_aFaultBehindIsSeenAheadOfTheFirstAct() {
        CutOffFilter x = by("s1");
        due(read(x, "i5;y1,3;x1;s9;q"), -114);
        due(x.of(3, 0), 1);
        due(x.word(1), 0);
        due(x.count(4), 0);
        due(x.count(0), 1);
        // a number out of its range ahead of a FAULT
        due(read(x, "s9;"), -103);
    }

    /** An ACT that is refused behind some that are not. */
    private static void refused(String ahead, String act) {
        CutOffFilter x = by(ahead);
        long[] before = state(x);
        due(read(x, act), -200);
        due(x.count(2), 0);
        due(Arrays.equals(before, state(x)) ? 1 : 0, 1);
        due(read(x, "x1;" + act), -201);
        due(x.count(4), 1);
        due(x.count(2), 0);
    }

    static void p34_aNumberOutOfItsRangeIsRefused() {
        String[] acts = {"n0", "n4", "n-1", "n99", "b1", "b6", "b-99", "c0,1", "c4,1", "c-1,1", "c99,99", "s-1", "s7", "r-1", "r5",
            "o-1", "o5", "p-1", "p2", "y0,1", "y3,1", "y-1,1", "y1,8", "y1,-9", "y2,99"};
        for (String act : acts) {
            refused("b4", act);
        }
    }

    static void p34_theLeastAndTheGreatestOfEachActAreDone() {
        due(read(new CutOffFilter(), "b2;n3;n1;b5;s6;s0;r4;r0;o4;o0;p1;p0"), 12);
        due(read(new CutOffFilter(), "c1,99;c1,-99;c3,99;c3,-99;i99;i-99;x99;x-99;y1,7;y1,-8;y2,7;y2,-8"), 12);
    }

    static void p34_orderTimesBitsAbove10IsRefused() {
        refused("b4", "n3");
        refused("n1;b5", "n3");
        refused("b3;n3", "b4");
        refused("b3;n3", "b5");
    }

    static void p34_aStepThatHaltsIsRefused() {
        CutOffFilter x = by("o4;y1,5");
        due(read(x, "x8"), -200);
        causes(x, 0, 0, 8);
        words(x, 5, 0);
        due(x.count(4), 0);
        due(read(x, "x7;x-8;x-9;x1"), -202);
        causes(x, 0, 0, -9);
        words(x, -8, 7);
        due(x.count(4), 2);
    }

    static void p34_theActsAheadOfOneThatIsRefusedAreDone() {
        CutOffFilter x = new CutOffFilter();
        due(read(x, "s1;i5;y1,3;x2;s7;i9;y2,1;x1"), -204);
        due(x.of(4, 0), 1);
        due(x.of(3, 0), 5);
        words(x, 5, 3);
        due(x.count(0), 2);
        due(x.count(4), 1);
        due(x.undo(), 1);
        due(x.of(3, 0), 1);
    }

    static void p34_theFirstActIsRefused() {
        CutOffFilter x = new CutOffFilter();
        due(read(x, "n4;s1;x1"), -200);
        due(x.of(4, 0), 0);
        due(x.count(4), 0);
    }

    static void p34_theLastActIsRefused() {
        StringBuilder text = new StringBuilder("x1");
        while (text.length() < 77) {
            text.append(";x1");
        }
        CutOffFilter x = new CutOffFilter();
        due(read(x, text + ";s7"), -226);
        due(x.count(4), 26);
    }

    static void p34_theTapeIsEmptyBehindEachRead() {
        for (String text : new String[] {"x1", "q", "s7", "s1;s7", "s1;", ""}) {
            CutOffFilter x = new CutOffFilter();
            read(x, text);
            due(x.count(2), 0);
            due(x.wipe(), 0);
            due(x.read(), -100);
            due(x.feed('x'), 1);
        }
    }

    static void p34_anotherOrderOrBitsMakesThePastAll0() {
        CutOffFilter x = by("y1,7;y2,7;b5");
        words(x, 0, 0);
        due(read(x, "y1,7;y2,7;n1"), 3);
        words(x, 0);
        due(read(x, "y1,7;n1;b5"), 3);
        words(x, 7);
    }

    static void p34_refusedByItsTextChangesNothingButTheTape() {
        CutOffFilter x = busy();
        due(x.wipe(), 2);
        long[] before = state(x);
        due(read(x, "i1;;"), -103);
        due(read(x, ""), -100);
        due(read(x, "s9"), -200);
        due(Arrays.equals(before, state(x)) ? 1 : 0, 1);
        due(x.redo(), 0);
    }

    // ---- promise 35: row

    static void p35_rowsFrom0To3() {
        CutOffFilter x = new CutOffFilter();
        due(x.row(-1, 0, 1), BAD);
        due(x.row(4, 0, 1), BAD);
        for (int end : ENDS) {
            due(x.row(end, 0, 1), BAD);
        }
        due(x.count(3), 0);
        for (int row = 0; row < 4; row++) {
            due(x.row(row, 0, 1), 1);
            due(x.count(3), row + 1);
        }
    }

    static void p35_sortsFrom1BelowTo2() {
        CutOffFilter x = new CutOffFilter();
        due(x.row(0, -2, 1), BAD);
        due(x.row(0, 3, 1), BAD);
        for (int end : ENDS) {
            due(x.row(0, end, 1), BAD);
        }
        due(x.row(0, 0, 1), 1);
        due(x.row(0, 2, 1), 1);
        due(x.row(0, -1, 1), 1);
        due(x.count(3), 0);
    }

    static void p35_sizesFrom0To40() {
        CutOffFilter x = new CutOffFilter();
        for (int sort = 0; sort < 3; sort++) {
            due(x.row(0, sort, 41), BAD);
            due(x.row(0, sort, HIGH), BAD);
            due(x.row(0, sort, 40), 1);
            due(x.get(0, 39), 0);
            due(x.get(0, 40), VOID);
            due(x.row(0, sort, 0), 1);
            due(x.get(0, 0), VOID);
            due(x.run(0, 0), 0);
            due(x.row(0, sort, -1), TOO_SMALL);
            due(x.row(0, sort, LOW), TOO_SMALL);
            due(x.count(3), 1);
        }
    }

    static void p35_aMissingRowNeedsNoSize() {
        CutOffFilter x = new CutOffFilter();
        for (int n : new int[] {LOW, -1, 0, 40, 41, HIGH}) {
            due(x.row(2, 1, 3), 1);
            due(x.row(2, -1, n), 1);
            due(x.get(2, 0), VOID);
            due(x.count(3), 0);
        }
        due(x.row(2, -1, 0), 1);
    }

    static void p35_ofSeveralTheFirst() {
        CutOffFilter x = new CutOffFilter();
        due(x.row(4, 0, -1), BAD);
        due(x.row(0, 3, -1), BAD);
        due(x.row(0, -2, -1), BAD);
        due(x.row(4, -1, 0), BAD);
        due(x.row(-1, 3, 41), BAD);
    }

    static void p35_all0WhateverStoodThere() {
        CutOffFilter x = new CutOffFilter();
        for (int sort = 0; sort < 3; sort++) {
            fill40(x, 0, sort, 9, 9);
            due(x.row(0, sort, 40), 1);
            for (int i = 0; i < 40; i++) {
                due(x.get(0, i), 0);
            }
        }
        fill40(x, 1, 2, 9, 9);
        due(x.row(1, 2, 1), 1);
        due(x.row(1, 2, 40), 1);
        due(x.get(1, 1), 0);
        due(x.get(1, 39), 0);
    }

    static void p35_whatIsRefusedChangesNothing() {
        changesNothing(x -> {
            due(x.row(0, 0, 41), BAD);
            due(x.row(0, 0, -1), TOO_SMALL);
            due(x.row(0, 3, 1), BAD);
            due(x.row(0, -2, 1), BAD);
            due(x.row(4, -1, 1), BAD);
        });
    }

    // ---- promise 36: put

    static void p36_rowsFrom0To3() {
        CutOffFilter x = new CutOffFilter();
        fill(x, 0, 0, 5);
        fill(x, 3, 0, 6);
        due(x.put(-1, 0, 1), BAD);
        due(x.put(4, 0, 1), BAD);
        for (int end : ENDS) {
            due(x.put(end, 0, 1), BAD);
        }
        due(x.get(0, 0), 5);
        due(x.get(3, 0), 6);
    }

    static void p36_aRowThatIsMissing() {
        CutOffFilter x = new CutOffFilter();
        due(x.put(0, 0, 1), MISSING);
        due(x.count(3), 0);
    }

    static void p36_placesFrom0ToTheLast() {
        CutOffFilter x = new CutOffFilter();
        due(x.row(0, 2, 40), 1);
        due(x.put(0, -1, 1), OUTSIDE);
        due(x.put(0, 0, 1), 1);
        due(x.put(0, 39, 2), 1);
        due(x.put(0, 40, 1), OUTSIDE);
        for (int end : ENDS) {
            due(x.put(0, end, 1), OUTSIDE);
        }
        due(x.get(0, 0), 1);
        due(x.get(0, 39), 2);
        due(x.row(0, 2, 3), 1);
        due(x.put(0, 2, 1), 1);
        due(x.put(0, 3, 1), OUTSIDE);
    }

    static void p36_aRowOf0Numbers() {
        CutOffFilter x = new CutOffFilter();
        due(x.row(0, 1, 0), 1);
        due(x.put(0, 0, 1), OUTSIDE);
        due(x.put(0, -1, 1), OUTSIDE);
    }

    static void p36_ofSeveralTheFirst() {
        CutOffFilter x = new CutOffFilter();
        due(x.put(4, -1, 1), BAD);
        due(x.put(0, -1, 1), MISSING);
        due(x.put(0, 40, 1), MISSING);
    }

    private static void keeps(int sort, long told, long kept) {
        CutOffFilter x = new CutOffFilter();
        due(x.row(1, sort, 3), 1);
        due(x.put(1, 1, told), 1);
        due(x.get(1, 1), kept);
        due(x.get(1, 0), 0);
        due(x.get(1, 2), 0);
    }

    static void p36_theLowest8BitsOfALong() {
        keeps(0, 127, 127);
        keeps(0, 128, -128);
        keeps(0, 255, -1);
        keeps(0, 256, 0);
        keeps(0, -128, -128);
        keeps(0, -129, 127);
        keeps(0, -256, 0);
        keeps(0, (1L << 32) + 5, 5);
        keeps(0, Long.MAX_VALUE, -1);
        keeps(0, Long.MIN_VALUE, 0);
    }

    static void p36_theLowest32BitsOfALong() {
        keeps(1, HIGH, HIGH);
        keeps(1, 1L << 31, LOW);
        keeps(1, (1L << 32) - 1, -1);
        keeps(1, 1L << 32, 0);
        keeps(1, LOW, LOW);
        keeps(1, LOW - 1L, HIGH);
        keeps(1, Long.MAX_VALUE, -1);
        keeps(1, Long.MIN_VALUE, 0);
        keeps(1, Long.MIN_VALUE + 200, 200);
    }

    static void p36_allBitsOfALong() {
        keeps(2, Long.MAX_VALUE, Long.MAX_VALUE);
        keeps(2, Long.MIN_VALUE + 1, Long.MIN_VALUE + 1);
        keeps(2, 1L << 32, 1L << 32);
        keeps(2, -1, -1);
        keeps(2, Long.MIN_VALUE, Long.MIN_VALUE);
    }

    static void p36_whatIsRefusedChangesNothing() {
        changesNothing(x -> {
            due(x.put(4, 0, 1), BAD);
            due(x.put(3, 0, 1), MISSING);
            due(x.put(0, 3, 1), OUTSIDE);
            due(x.put(0, -1, 1), OUTSIDE);
        });
    }

    // ---- promise 37: get

    static void p37_rowsFrom0To3() {
        CutOffFilter x = new CutOffFilter();
        fill(x, 0, 0, 5);
        fill(x, 3, 0, 6);
        due(x.get(-1, 0), VOID);
        due(x.get(0, 0), 5);
        due(x.get(3, 0), 6);
        due(x.get(4, 0), VOID);
        for (int end : ENDS) {
            due(x.get(end, 0), VOID);
        }
    }

    static void p37_placesFrom0ToTheLast() {
        CutOffFilter x = new CutOffFilter();
        fill40(x, 0, 1, 4, -4);
        due(x.get(0, -1), VOID);
        due(x.get(0, 0), 4);
        due(x.get(0, 39), -4);
        due(x.get(0, 40), VOID);
        for (int end : ENDS) {
            due(x.get(0, end), VOID);
        }
        due(x.row(0, 0, 0), 1);
        due(x.get(0, 0), VOID);
    }

    static void p37_aRowThatIsMissing() {
        CutOffFilter x = new CutOffFilter();
        due(x.get(0, 0), VOID);
        fill(x, 0, 0, 5);
        due(x.row(0, -1, 0), 1);
        due(x.get(0, 0), VOID);
    }

    static void p37_changesNothing() {
        changesNothing(x -> {
            due(x.get(0, 0), -2);
            due(x.get(3, 0), VOID);
            due(x.get(0, 3), VOID);
        });
    }

    // ---- promise 38: film

    static void p38_rowsFrom0To3() {
        CutOffFilter x = new CutOffFilter();
        fill(x, 0, 0, 5);
        due(x.film(-1, 0, 0), BAD);
        due(x.film(4, 0, 0), BAD);
        due(x.film(1, 0, -1), BAD);
        due(x.film(1, 0, 4), BAD);
        for (int end : ENDS) {
            due(x.film(end, 0, 0), BAD);
            due(x.film(1, 0, end), BAD);
        }
        due(x.count(3), 1);
        due(x.film(3, 0, 0), 1);
        due(x.film(0, 0, 3), 1);
        due(x.get(3, 0), 5);
    }

    static void p38_sortsFrom0To2() {
        CutOffFilter x = new CutOffFilter();
        fill(x, 0, 0, 5);
        due(x.film(1, -1, 0), BAD);
        due(x.film(1, 3, 0), BAD);
        for (int end : ENDS) {
            due(x.film(1, end, 0), BAD);
        }
        due(x.count(3), 1);
        for (int sort = 0; sort < 3; sort++) {
            due(x.film(1, sort, 0), 1);
            due(x.row(2, sort, 1), 1);
            due(x.copy(1, 0, 2, 0, 1), 1);
            due(x.get(2, 0), 5);
        }
    }

    static void p38_theOtherRowIsMissing() {
        CutOffFilter x = new CutOffFilter();
        fill(x, 0, 0, 5);
        due(x.film(0, 0, 1), MISSING);
        due(x.film(1, 0, 1), MISSING);
        due(x.get(0, 0), 5);
        due(x.count(3), 1);
    }

    static void p38_ofSeveralTheFirst() {
        CutOffFilter x = new CutOffFilter();
        due(x.film(4, 0, 0), BAD);
        due(x.film(0, 3, 1), BAD);
        due(x.film(0, -1, 1), BAD);
        due(x.film(0, 0, 4), BAD);
    }

    static void p38_noOutputsAreARowOf0Numbers() {
        CutOffFilter x = by("o4");
        due(x.row(0, 0, 0), 1);
        due(x.film(1, 2, 0), 0);
        due(x.count(3), 2);
        due(x.get(1, 0), VOID);
        due(x.run(1, 0), 0);
        fill(x, 2, 0, 8, 1);
        due(x.film(2, 0, 2), 0);
        due(x.count(3), 3);
        due(x.get(2, 0), VOID);
    }

    static void p38_outputsOf40Numbers() {
        CutOffFilter x = new CutOffFilter();
        fill40(x, 0, 1, 8, 9);
        due(x.film(1, 2, 0), 40);
        due(x.get(1, 0), -8);
        due(x.get(1, 39), -7);
        due(x.get(1, 40), VOID);
        due(x.get(0, 0), 8);
    }

    static void p38_beyond99CountsAs99() {
        CutOffFilter x = new CutOffFilter();
        fill(x, 0, 2, 100, Long.MIN_VALUE, 98);
        due(x.film(1, 1, 0), 3);
        due(x.get(1, 0), 3);
        due(x.get(1, 1), -3);
        due(x.get(1, 2), 2);
        due(x.get(0, 1), Long.MIN_VALUE);
    }

    static void p38_itsOwnRow() {
        CutOffFilter x = by("c1,1");
        fill(x, 0, 2, 1, 1, 1);
        due(x.film(0, 0, 0), 3);
        due(x.get(0, 0), 1);
        due(x.get(0, 1), 2);
        due(x.get(0, 2), 3);
        due(x.put(0, 0, 128), 1);
        due(x.get(0, 0), -128);
    }

    static void p38_aRunThatHalts() {
        CutOffFilter x = halting();
        due(x.film(1, 1, 1), 3);
        due(x.get(1, 2), 4);
        due(x.get(1, 3), VOID);
        due(x.cause(0), NONE);
    }

    static void p38_whatIsRefusedChangesNothing() {
        changesNothing(x -> {
            due(x.film(0, 0, 3), MISSING);
            due(x.film(0, 3, 0), BAD);
            due(x.film(0, -1, 0), BAD);
            due(x.film(4, 0, 0), BAD);
            due(x.film(0, 0, 4), BAD);
        });
    }

    static void p38_leavesThePastAndTheSteps() {
        CutOffFilter x = halting();
        due(x.film(0, 0, 1), 3);
        words(x, 0, 0);
        due(x.count(4), 0);
    }

    // ---- promise 39: copy

    static void p39_rowsFrom0To3() {
        CutOffFilter x = new CutOffFilter();
        fill(x, 0, 0, 5);
        fill(x, 3, 0, 6);
        due(x.copy(-1, 0, 0, 0, 1), BAD);
        due(x.copy(4, 0, 0, 0, 1), BAD);
        due(x.copy(0, 0, -1, 0, 1), BAD);
        due(x.copy(0, 0, 4, 0, 1), BAD);
        for (int end : ENDS) {
            due(x.copy(end, 0, 0, 0, 1), BAD);
            due(x.copy(0, 0, end, 0, 1), BAD);
        }
        due(x.copy(3, 0, 0, 0, 1), 1);
        due(x.get(0, 0), 6);
    }

    static void p39_eitherIsMissing() {
        CutOffFilter x = new CutOffFilter();
        fill(x, 0, 0, 5);
        due(x.copy(0, 0, 1, 0, 1), MISSING);
        due(x.copy(1, 0, 0, 0, 1), MISSING);
        due(x.copy(1, 0, 1, 0, 0), MISSING);
        due(x.count(3), 1);
    }

    static void p39_unlikeSorts() {
        for (int sort = 0; sort < 3; sort++) {
            for (int other = 0; other < 3; other++) {
                CutOffFilter x = new CutOffFilter();
                fill(x, 0, sort, 5);
                fill(x, 1, other, 6);
                due(x.copy(0, 0, 1, 0, 1), sort == other ? 1 : UNLIKE);
                due(x.get(1, 0), sort == other ? 5 : 6);
            }
        }
    }

    static void p39_placesAndSizesFrom0ToTheEnds() {
        CutOffFilter x = new CutOffFilter();
        fill(x, 0, 1, 1, 2, 3);
        fill(x, 1, 1, 4, 5);
        int[][] outside = {{-1, 0, 1}, {0, -1, 1}, {0, 0, -1}, {3, 0, 1}, {0, 2, 1}, {0, 0, 3}, {2, 0, 2}, {0, 1, 2}, {4, 0, 0}, {0, 3, 0},
            {-1, 0, 0}, {0, -1, 0}, {3, 0, -1}, {LOW, 0, 1}, {0, LOW, 1}, {0, 0, LOW}, {HIGH, 0, 1}, {0, HIGH, 1}, {0, 0, HIGH},
            {HIGH, HIGH, HIGH}, {1, 1, HIGH}, {HIGH, 0, LOW}, {-1, -1, 2}};
        for (int[] told : outside) {
            due(x.copy(0, told[0], 1, told[1], told[2]), OUTSIDE);
        }
        due(x.get(1, 0), 4);
        due(x.get(1, 1), 5);
        due(x.copy(0, 3, 1, 2, 0), 0);
        due(x.copy(0, 0, 1, 0, 0), 0);
        due(x.get(1, 1), 5);
        due(x.copy(0, 1, 1, 0, 2), 2);
        due(x.get(1, 0), 2);
        due(x.get(1, 1), 3);
        due(x.copy(0, 0, 1, 1, 1), 1);
        due(x.get(1, 1), 1);
    }

    static void p39_rowsOf0Numbers() {
        CutOffFilter x = new CutOffFilter();
        due(x.row(0, 1, 0), 1);
        due(x.row(1, 1, 0), 1);
        due(x.copy(0, 0, 1, 0, 0), 0);
        due(x.copy(0, 0, 1, 0, 1), OUTSIDE);
        due(x.copy(0, 1, 1, 0, 0), OUTSIDE);
        due(x.copy(0, 0, 1, 1, 0), OUTSIDE);
        due(x.copy(0, 0, 0, 0, 0), 0);
    }

    static void p39_rowsOf40Numbers() {
        CutOffFilter x = new CutOffFilter();
        fill40(x, 0, 2, Long.MAX_VALUE, Long.MIN_VALUE + 7);
        due(x.row(1, 2, 40), 1);
        due(x.copy(0, 0, 1, 0, 41), OUTSIDE);
        due(x.copy(0, 0, 1, 0, 40), 40);
        due(x.get(1, 0), Long.MAX_VALUE);
        due(x.get(1, 39), Long.MIN_VALUE + 7);
        due(x.copy(0, 39, 1, 0, 1), 1);
        due(x.get(1, 0), Long.MIN_VALUE + 7);
        due(x.copy(0, 39, 1, 39, 2), OUTSIDE);
    }

    static void p39_asTheyWereWithinItsOwnRow() {
        CutOffFilter x = new CutOffFilter();
        fill(x, 0, 0, 1, 2, 3, 4, 5);
        due(x.copy(0, 0, 0, 1, 4), 4);
        int[] onward = {1, 1, 2, 3, 4};
        for (int i = 0; i < 5; i++) {
            due(x.get(0, i), onward[i]);
        }
        fill(x, 0, 0, 1, 2, 3, 4, 5);
        due(x.copy(0, 1, 0, 0, 4), 4);
        int[] backward = {2, 3, 4, 5, 5};
        for (int i = 0; i < 5; i++) {
            due(x.get(0, i), backward[i]);
        }
    }

    static void p39_ofSeveralTheFirst() {
        CutOffFilter x = new CutOffFilter();
        fill(x, 0, 0, 5);
        fill(x, 1, 1, 5);
        due(x.copy(2, 0, 4, 0, -1), BAD);
        due(x.copy(-1, 0, 2, 0, -1), BAD);
        due(x.copy(2, -1, 0, 0, 1), MISSING);
        due(x.copy(0, 0, 2, -1, 1), MISSING);
        due(x.copy(0, -1, 1, 0, 1), UNLIKE);
        due(x.copy(1, 0, 0, 0, -1), UNLIKE);
    }

    static void p39_whatIsRefusedChangesNothing() {
        changesNothing(x -> {
            due(x.copy(0, 0, 4, 0, 1), BAD);
            due(x.copy(0, 0, 3, 0, 1), MISSING);
            due(x.copy(0, 0, 1, 0, 1), UNLIKE);
            due(x.copy(0, 0, 0, 1, 3), OUTSIDE);
        });
    }

    // ---- promises 40 and 41: act, trace

    static void p40_roundingFrom0To4() {
        CutOffFilter x = new CutOffFilter();
        due(x.act(-1, 0, 5), 0);
        due(x.act(0, 0, 5), 5);
        due(x.act(4, 0, 5), 9);
        due(x.act(5, 0, 5), 0);
        for (int end : ENDS) {
            due(x.act(end, 0, 5), 0);
        }
    }

    static void p40_actsFrom0To2() {
        CutOffFilter x = new CutOffFilter();
        due(x.act(1, -1, 5), 0);
        due(x.act(1, 0, 5), 6);
        due(x.act(1, 1, 5), 9);
        due(x.act(1, 2, 5), 8);
        due(x.act(1, 3, 5), 0);
        for (int end : ENDS) {
            due(x.act(1, end, 5), 0);
        }
    }

    static void p40_liftsAtTheEndsOfInt() {
        CutOffFilter x = new CutOffFilter();
        int[] greatest = {HIGH, LOW, HIGH, 2147483642, LOW + 3};
        int[] least = {LOW, LOW + 1, 2147483646, 2147483639, LOW + 4};
        for (int rounding = 0; rounding < 5; rounding++) {
            due(x.act(rounding, 0, HIGH), greatest[rounding]);
            due(x.act(rounding, 0, LOW), least[rounding]);
        }
        // less the least int is the least int
        due(x.act(2, 0, HIGH - 1), LOW);
    }

    static void p40_lowersAtTheEndsOfInt() {
        CutOffFilter x = new CutOffFilter();
        int[] greatest = {-2, 5, -2, -12, 9};
        int[] least = {0, 7, -4, -18, 19};
        for (int rounding = 0; rounding < 5; rounding++) {
            due(x.act(rounding, 1, HIGH), greatest[rounding]);
            due(x.act(rounding, 1, LOW), least[rounding]);
        }
    }

    static void p40_tellsAtTheEndsOfInt() {
        CutOffFilter x = new CutOffFilter();
        int[] greatest = {-2, 4, -4, -21, 5};
        int[] least = {0, 6, -6, -27, 15};
        for (int rounding = 0; rounding < 5; rounding++) {
            due(x.act(rounding, 2, HIGH), greatest[rounding]);
            due(x.act(rounding, 2, LOW), least[rounding]);
        }
    }

    static void p40_whatIsBadChangesNothing() {
        changesNothing(x -> {
            due(x.act(5, 0, 1), 0);
            due(x.act(-1, 0, 1), 0);
            due(x.act(0, 3, 1), 0);
            due(x.act(0, -1, 1), 0);
        });
    }

    static void p40_changesTheTraceAlone() {
        CutOffFilter x = busy();
        due(x.act(0, 0, 1), 1);
        due(x.act(3, 2, 7), -69);
        due(Arrays.equals(state(x), state(busy())) ? 1 : 0, 1);
    }

    static void p41_noTrace() {
        CutOffFilter x = new CutOffFilter();
        due(x.trace(0), NOT);
        due(x.act(5, 0, 1), 0);
        due(x.trace(0), NOT);
    }

    static void p41_bodiesFrom0ToTheLast() {
        CutOffFilter x = new CutOffFilter();
        due(x.act(3, 2, 7), -69);
        due(x.trace(-1), NOT);
        due(x.trace(0), 40);
        due(x.trace(5), 10);
        due(x.trace(6), NOT);
        for (int end : ENDS) {
            due(x.trace(end), NOT);
        }
    }

    static void p41_theLatestActAlone() {
        CutOffFilter x = new CutOffFilter();
        due(x.act(4, 2, 7), (22 ^ 5) + 6 - 4);
        due(x.trace(5), 10);
        due(x.act(0, 0, 7), 7);
        due(x.trace(0), 10);
        due(x.trace(1), NOT);
        due(x.act(0, 3, 7), 0);
        due(x.trace(0), 10);
        due(x.trace(1), NOT);
    }

    /** No act runs more than six bodies: the twenty-fourth and the twenty-fifth are none by any. */
    static void p41_theTwentyFourthAndTheNext() {
        CutOffFilter x = new CutOffFilter();
        int[][] bodies = {{1, 2, 3}, {1, 3, 4}, {2, 3, 4}, {3, 4, 6}, {1, 5, 6}};
        for (int rounding = 0; rounding < 5; rounding++) {
            for (int act = 0; act < 3; act++) {
                x.act(rounding, act, 1);
                due(x.trace(bodies[rounding][act] - 1) > 0 ? 1 : 0, 1);
                due(x.trace(bodies[rounding][act]), NOT);
                due(x.trace(23), NOT);
                due(x.trace(24), NOT);
                due(x.trace(25), NOT);
            }
        }
    }

    static void p41_changesNothing() {
        changesNothing(x -> {
            due(x.trace(0), 40);
            due(x.trace(6), NOT);
        });
    }

    // ---- promise 42: isUnder

    static void p42_kindsFrom0To4() {
        CutOffFilter x = new CutOffFilter();
        due(x.isUnder(-1, 0), BAD);
        due(x.isUnder(0, -1), BAD);
        due(x.isUnder(0, 0), 1);
        due(x.isUnder(4, 4), 1);
        due(x.isUnder(5, 0), BAD);
        due(x.isUnder(0, 5), BAD);
        due(x.isUnder(5, 5), BAD);
        due(x.isUnder(-1, -1), BAD);
        for (int end : ENDS) {
            due(x.isUnder(end, 0), BAD);
            due(x.isUnder(0, end), BAD);
        }
    }

    static void p42_eachKindUnderEachOther() {
        CutOffFilter x = new CutOffFilter();
        int[][] due = {{1, 0, 0, 0, 0}, {1, 1, 0, 0, 0}, {1, 0, 1, 0, 0}, {1, 1, 0, 1, 0}, {1, 0, 0, 0, 1}};
        for (int overflow = 0; overflow < 5; overflow++) {
            for (int k = 0; k < 5; k++) {
                due(x.isUnder(overflow, k), due[overflow][k]);
            }
        }
    }

    static void p42_changesNothing() {
        changesNothing(x -> {
            due(x.isUnder(3, 1), 1);
            due(x.isUnder(5, 0), BAD);
        });
    }

    // ---- promises 43 and 44: undo, redo

    static void p43_noneToUndo() {
        CutOffFilter x = new CutOffFilter();
        due(x.undo(), STATE);
        due(x.set(4, 0, 1), 0);
        due(x.undo(), 0);
        due(x.undo(), STATE);
        due(x.of(4, 0), 0);
        due(x.count(1), 1);
    }

    static void p43_theTwelfthAndTheThirteenthChange() {
        CutOffFilter x = new CutOffFilter();
        for (int v = 1; v <= 12; v++) {
            due(x.set(2, 1, v), v - 1);
            due(x.count(0), v);
        }
        due(x.set(3, 0, 5), 1);
        due(x.count(0), 12);
        due(x.undo(), 11);
        due(x.of(3, 0), 1);
        for (int left = 10; left >= 0; left--) {
            due(x.undo(), left);
            due(x.of(2, 1), left + 1);
        }
        // the eldest, 0 to 1, is none any more
        due(x.undo(), STATE);
        due(x.of(2, 1), 1);
        due(x.count(1), 12);
    }

    static void p43_twelveChangesAreAllUndone() {
        CutOffFilter x = new CutOffFilter();
        for (int v = 1; v <= 12; v++) {
            due(x.set(2, 1, v), v - 1);
        }
        for (int left = 11; left >= 0; left--) {
            due(x.undo(), left);
        }
        due(x.of(2, 1), 0);
        due(x.undo(), STATE);
    }

    static void p43_byReadToo() {
        CutOffFilter x = by("s1;s2;s3;s4;s5;s6;r1;r2;r3;r4;o1;o2;o3;p1;i2;i3;i4");
        due(x.count(0), 12);
        for (int left = 11; left >= 0; left--) {
            due(x.undo(), left);
        }
        due(x.undo(), STATE);
        due(x.of(4, 0), 5);
        due(x.of(5, 0), 0);
        due(x.of(3, 0), 1);
    }

    static void p43_anotherOrderOrBitsMakesThePastAll0() {
        CutOffFilter x = by("b3;n3;i2;y1,1;y2,2;y3,3");
        due(x.undo(), 2);
        words(x, 1, 2, 3);
        due(x.undo(), 1);
        due(x.of(0, 0), 2);
        words(x, 0, 0);
        due(x.past(2, 1), 0);
        due(x.undo(), 0);
        due(x.of(1, 0), 4);
        words(x, 0, 0);
    }

    static void p43_thereIsNoneChangesNothing() {
        CutOffFilter x = by("y1,3");
        due(x.step(1), 1);
        long[] before = state(x);
        due(x.undo(), STATE);
        due(x.redo(), STATE);
        due(Arrays.equals(before, state(x)) ? 1 : 0, 1);
    }

    static void p44_noneToDoAgain() {
        CutOffFilter x = by("s1");
        due(x.redo(), STATE);
        due(x.undo(), 0);
        due(x.redo(), 0);
        due(x.redo(), STATE);
        due(x.of(4, 0), 1);
        due(x.count(0), 1);
    }

    static void p44_twelveAreDoneAgain() {
        CutOffFilter x = new CutOffFilter();
        for (int v = 1; v <= 13; v++) {
            due(x.set(2, 1, v), v - 1);
        }
        for (int left = 11; left >= 0; left--) {
            due(x.undo(), left);
        }
        for (int left = 11; left >= 0; left--) {
            due(x.redo(), left);
            due(x.of(2, 1), 13 - left);
        }
        due(x.redo(), STATE);
        due(x.of(2, 1), 13);
    }

    static void p44_asLongAsNoOtherOneCameBehind() {
        CutOffFilter x = by("s1;s2;s3");
        due(x.undo(), 2);
        due(x.undo(), 1);
        due(x.count(1), 2);
        due(x.set(3, 0, 5), 1);
        due(x.count(1), 0);
        due(x.redo(), STATE);
        due(x.count(0), 2);
        due(x.undo(), 1);
        due(read(x, "i6"), 1);
        due(x.redo(), STATE);
    }

    static void p44_whatIsNoChangeLeavesThem() {
        CutOffFilter x = by("s1;s2");
        due(x.undo(), 1);
        due(x.set(4, 0, 1), 1);
        due(x.set(4, 0, 7), NO);
        due(x.set(0, 0, 3), HALTED);
        due(x.past(1, 2), 0);
        due(x.step(2), 1);
        due(read(x, "s1;y1,3"), 2);
        due(x.image(), 11 * 16 + 10);
        due(x.redo(), 0);
        due(x.of(4, 0), 2);
    }

    static void p44_anotherOrderOrBitsMakesThePastAll0() {
        CutOffFilter x = by("n1;b5;i2");
        due(x.undo(), 2);
        due(x.undo(), 1);
        due(x.undo(), 0);
        due(x.past(2, 3), 0);
        due(x.redo(), 2);
        words(x, 0);
        due(x.past(1, 7), 0);
        due(x.redo(), 1);
        words(x, 0);
        due(x.past(1, -16), 0);
        due(x.redo(), 0);
        words(x, -16);
    }

    // ---- promises 45, 46 and 47: image, alike, back

    static void p45_anImageTakenAnewIsAnother() {
        CutOffFilter x = by("y1,7;y2,-8");
        due(x.image(), 15 * 16);
        due(x.past(1, -8), 7);
        due(x.alike(), 0);
        due(x.image(), 0);
        due(x.alike(), 1);
        due(x.past(1, 1), -8);
        due(x.back(), 0);
    }

    static void p45_theImageStaysAsItWasTaken() {
        CutOffFilter x = new CutOffFilter();
        due(x.image(), 136);
        due(read(x, "b2;n3;s6;i-99;c3,1;y3,-2;x99"), 7);
        due(x.back(), 136);
        words(x, 0, 0);
        due(x.of(4, 0), 0);
        due(x.of(2, 3), 0);
        due(x.starts(), 256);
    }

    static void p45_changesNothingElse() {
        CutOffFilter x = busy();
        due(x.image(), 13 * 16 + 2);
        due(x.alike(), 1);
        due(x.set(3, 0, 7), 7);
        due(x.count(0), 6);
        due(x.redo(), 0);
        due(x.alike(), 0);
        due(x.undo(), 6);
        due(x.alike(), 1);
    }

    static void p46_noImage() {
        CutOffFilter x = new CutOffFilter();
        due(x.alike(), STATE);
        due(x.back(), STATE);
        due(x.alike(), STATE);
        due(x.image(), 136);
        due(x.alike(), 1);
    }

    static void p46_eachNumberMatters() {
        int[] other = {1, 3, 5, 5, 5, 4, 1, 1};
        for (int what = 0; what < 8; what++) {
            for (int which = 1; which <= (what == 2 ? 3 : 1); which++) {
                CutOffFilter x = new CutOffFilter();
                due(x.image(), 136);
                int was = x.set(what, which, other[what]);
                due(x.alike(), 0);
                due(x.set(what, which, was), other[what]);
                due(x.alike(), 1);
            }
        }
    }

    static void p46_eachWordMatters() {
        for (int k = 1; k <= 3; k++) {
            CutOffFilter x = by("b3;n3");
            due(x.image(), 292);
            due(x.past(k, -4), 0);
            due(x.alike(), 0);
            due(x.past(k, 0), -4);
            due(x.alike(), 1);
        }
    }

    static void p46_wordsThatAreGoneDoNotMatter() {
        CutOffFilter x = by("b3");
        due(x.image(), 36);
        due(read(x, "n3;y3,2;n2"), 3);
        due(x.alike(), 1);
        due(read(x, "n1;y1,3;x1;n2"), 4);
        due(x.alike(), 1);
    }

    static void p46_nothingElseMatters() {
        CutOffFilter x = by("o4");
        due(x.image(), 136);
        fill(x, 0, 0, 5);
        due(x.feed('q'), 1);
        due(x.step(8), HALTED);
        due(x.act(0, 0, 1), 1);
        due(x.alike(), 1);
    }

    static void p46_changesNothing() {
        changesNothing(x -> due(x.alike(), 0));
    }

    static void p47_noImage() {
        CutOffFilter x = by("s1;s2;y1,3");
        due(x.undo(), 1);
        long[] before = state(x);
        due(x.back(), STATE);
        due(Arrays.equals(before, state(x)) ? 1 : 0, 1);
        due(x.redo(), 0);
    }

    static void p47_leavesNoChanges() {
        CutOffFilter x = by("s1;s2");
        due(x.image(), 136);
        due(x.set(4, 0, 3), 2);
        due(x.undo(), 2);
        due(x.back(), 136);
        due(x.count(0), 0);
        due(x.count(1), 0);
        due(x.undo(), STATE);
        due(x.redo(), STATE);
        due(x.of(4, 0), 2);
        due(x.set(4, 0, 5), 2);
        due(x.undo(), 0);
        due(x.of(4, 0), 2);
    }

    static void p47_alsoWhereAllIsAsItIs() {
        CutOffFilter x = by("s1;y1,3");
        due(x.image(), 11 * 16 + 8);
        due(x.back(), 11 * 16 + 8);
        words(x, 3, 0);
        due(x.count(0), 0);
        due(x.back(), 11 * 16 + 8);
    }

    static void p47_orderBitsAndThePastComeBack() {
        CutOffFilter x = by("b3;n3;y1,3;y2,-4;y3,1");
        due(x.image(), 7 * 64 + 5);
        due(read(x, "n1;b5;y1,-16"), 3);
        due(x.back(), 7 * 64 + 5);
        words(x, 3, -4, 1);
        due(x.of(0, 0), 3);
        due(x.of(1, 0), 3);
        due(x.set(1, 0, 4), HALTED);
    }

    static void p47_tapeRowsCausesTraceAndStepsStay() {
        CutOffFilter x = busy();
        due(x.step(0), 7);
        due(x.back(), 210);
        due(x.count(2), 2);
        due(x.count(3), 3);
        due(x.count(4), 1);
        due(x.get(0, 0), -2);
        due(x.get(2, 3), 9);
        causes(x, 0, 0, 180);
        due(x.trace(0), 40);
        due(x.read(), -200);
    }

    // ---- promise 48: count

    static void p48_whatFrom0To4() {
        CutOffFilter x = busy();
        int[] due = {6, 1, 2, 3, 0};
        due(x.count(-1), BAD);
        for (int what = 0; what < 5; what++) {
            due(x.count(what), due[what]);
        }
        due(x.count(5), BAD);
        for (int end : ENDS) {
            due(x.count(end), BAD);
        }
    }

    static void p48_eachAtItsMost() {
        CutOffFilter x = new CutOffFilter();
        for (int v = 1; v <= 14; v++) {
            due(x.set(2, 1, v), v - 1);
        }
        due(x.count(0), 12);
        for (int left = 11; left >= 0; left--) {
            due(x.undo(), left);
        }
        due(x.count(0), 0);
        due(x.count(1), 12);
        for (int i = 1; i <= 80; i++) {
            due(x.feed('q'), i);
        }
        due(x.feed('q'), FULL);
        due(x.count(2), 80);
        for (int row = 0; row < 4; row++) {
            due(x.row(row, 2, 40), 1);
        }
        due(x.row(3, 0, 0), 1);
        due(x.count(3), 4);
        for (int row = 0; row < 4; row++) {
            x.go(row);
        }
        due(x.count(4), 120);
    }

    static void p48_noneThatHaltsIsCounted() {
        CutOffFilter x = by("o4");
        due(x.step(8), HALTED);
        due(x.count(4), 0);
        fill(x, 0, 0, 8, 1);
        due(x.go(0), 0);
        due(x.count(4), 0);
        due(read(x, "x9"), -200);
        due(x.count(4), 0);
        fill(x, 0, 0, 1, 8);
        due(x.go(0), 1);
        due(read(x, "x1;x9"), -201);
        due(x.step(1), 1);
        due(x.count(4), 3);
    }

    static void p48_whatIsAskedIsNotCounted() {
        CutOffFilter x = halting();
        due(x.would(1, 0), 1);
        due(x.run(1, 0), 3);
        due(x.film(0, 0, 1), 3);
        due(x.measure(0, 1), ENDED);
        due(x.next(136, 0), 136);
        due(x.count(4), 0);
    }

    static void p48_changesNothing() {
        changesNothing(x -> {
            due(x.count(0), 6);
            due(x.count(5), BAD);
        });
    }

    // ---- all of them

    public static void main(String[] arguments) throws Exception {
        TreeMap<String, Method> tests = new TreeMap<>();
        Set<Integer> promises = new TreeSet<>();
        for (Method method : EdgeTests.class.getDeclaredMethods()) {
            if (method.getName().matches("p\\d\\d_\\w+")) {
                tests.put(method.getName(), method);
                promises.add(Integer.parseInt(method.getName().substring(1, 3)));
            }
        }
        for (Method method : tests.values()) {
            test = method.getName();
            number = 0;
            method.invoke(null);
        }
        for (int promise = 1; promise <= 48; promise++) {
            if (!promises.contains(promise)) {
                wrong++;
                System.out.println("promise " + promise + " has no test");
            }
        }
        System.out.println(tests.size() + " tests of boundary cases: " + (wrong == 0 ? "all answers are as due" : wrong + " answers are not as due"));
        if (wrong != 0) {
            System.exit(1);
        }
    }
}
