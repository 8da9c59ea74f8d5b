import java.lang.annotation.Retention;
import java.lang.annotation.RetentionPolicy;
import java.lang.reflect.Method;
import java.nio.file.Files;
import java.nio.file.Path;
import java.util.ArrayList;
import java.util.Arrays;
import java.util.Collections;
import java.util.Comparator;
import java.util.HashSet;
import java.util.LinkedHashSet;
import java.util.List;
import java.util.Set;
import java.util.TreeMap;
import java.util.TreeSet;
import java.util.regex.Matcher;
import java.util.regex.Pattern;

/**
 * Each sentence of the document's "Terms" has a method here that holds the class to it, with the number of the promise
 * that it is looked at by in its name. That none is left out is looked at in ../shared/DOC.md itself: what the methods
 * quote, taken out of "Terms", leaves nothing over. Sentences are tested as they define: what an answer says is held
 * against other calls (a RUN against STEPS, a CYCLE against next() ..) or worked out by hand.
 */
public final class TermsTests {
    private static final int BAD = -1, NOT = -2, FULL = -3, STATE = -5, NO = -1001, NONE = -1002, HALTED = -1005;
    private static final int MISSING = -11, UNLIKE = -12, OUTSIDE = -13, TOO_SMALL = -14, MISSED = -1011, NOTHING = -1000000;
    private static final long VOID = Long.MIN_VALUE, ENDED = Long.MIN_VALUE + 1;
    /** Each ORDER with each BITS that it can have. */
    private static final int[][] SHAPES = {{1, 2}, {1, 3}, {1, 4}, {1, 5}, {2, 2}, {2, 3}, {2, 4}, {2, 5}, {3, 2}, {3, 3}};
    /** Filters of few STARTS (64 at most), so that each of these can be asked for by one object. */
    private static final String[] NARROW = {
        "b2;n3;c1,2;c2,-1;c3,1;s1;r2", "b3;c1,5;c2,-4;s2;o1", "b3;c1,6;c2,-5;s3;r3;o2;i3", "b2;c1,3;c2,2;o3;p1;s1;r4",
        "b3;c1,3;c2,-3;s1;o4", "n1;b5;c1,7;s3;r1", "n1;b5;c1,-9;s2;r2;o4", "b2;n3;c3,1", "b3;o4;c1,2;i9"
    };

    /** The sentence of "Terms" that a test is of, as it stands there, the ends of lines being blanks. */
    @Retention(RetentionPolicy.RUNTIME)
    private @interface Says {
        String value();
    }

    private static int wrong = 0;
    private static String test = "";
    private static int number = 0;

    private static void due(long got, long want) {
        number++;
        if (got != want) {
            wrong++;
            System.out.println(test + ", due() number " + number + ": answered " + got + ", due is " + want);
        }
    }

    private static void holds(boolean isSo) {
        due(isSo ? 1 : 0, 1);
    }

    // ---- how objects are made

    private static int read(CutOffFilter x, String text) {
        for (int i = 0; i < text.length(); i++) {
            due(x.feed(text.charAt(i)), i + 1);
        }
        return x.read();
    }

    private static CutOffFilter by(String text) {
        CutOffFilter x = new CutOffFilter();
        due(read(x, text), text.split(";").length);
        return x;
    }

    private static CutOffFilter shape(int order, int bits) {
        return by("b2;n" + order + ";b" + bits);
    }

    private static void fill(CutOffFilter x, int row, int sort, long... numbers) {
        due(x.row(row, sort, numbers.length), 1);
        for (int i = 0; i < numbers.length; i++) {
            due(x.put(row, i, numbers[i]), 1);
        }
    }

    private static void outputs(CutOffFilter x, int row, int... due) {
        for (int k = 0; k < due.length; k++) {
            due(x.output(row, k), due[k]);
        }
        due(x.output(row, due.length), NONE);
    }

    private static void words(CutOffFilter x, int... due) {
        for (int k = 1; k <= due.length; k++) {
            due(x.word(k), due[k - 1]);
        }
        due(x.word(due.length + 1), NO);
    }

    private static void causes(CutOffFilter x, int step, int what, int number) {
        due(x.cause(0), step);
        due(x.cause(1), what);
        due(x.cause(2), number);
    }

    private static void level(CutOffFilter x, int row, int k, int above, int below, int often) {
        due(x.level(row, k, 0), above);
        due(x.level(row, k, 1), below);
        due(x.level(row, k, 2), often);
    }

    private static void trace(CutOffFilter x, int... bodies) {
        for (int i = 0; i < bodies.length; i++) {
            due(x.trace(i), bodies[i]);
        }
        due(x.trace(bodies.length), NOT);
    }

    /** That the fraction which noise(), level() or lost() tells is above by below, and in lowest terms. */
    private static void isFraction(long toldAbove, long toldBelow, long above, long below) {
        due(toldAbove * below, above * toldBelow);
        holds(toldBelow > 0);
        long a = Math.abs(toldAbove);
        long b = toldBelow;
        while (b != 0) {
            long rest = a % b;
            a = b;
            b = rest;
        }
        due(a, 1);
    }

    private static boolean isWord(int number, int bits) {
        return number >= -(1 << (bits - 1)) && number <= (1 << (bits - 1)) - 1;
    }

    /** WORD 1 of the PAST with that CODE. */
    private static int latest(int code, int order, int bits) {
        return (code >> (bits * (order - 1))) - (1 << (bits - 1));
    }

    // ---- part 1: the numbers

    @Says("1 A FILTER has an ORDER n (1 .. 3; 2 at first), BITS w (2 .. 5; 4 at first), n times w being no more than 10;")
    static void p02_orderAndBits() {
        due(new CutOffFilter().of(0, 0), 2);
        due(new CutOffFilter().of(1, 0), 4);
        for (int order = 0; order <= 4; order++) {
            for (int bits = 1; bits <= 6; bits++) {
                CutOffFilter x = new CutOffFilter();
                due(x.set(0, 0, 1), 2);
                boolean isBits = bits >= 2 && bits <= 5;
                boolean isOrder = order >= 1 && order <= 3;
                due(x.set(1, 0, bits), isBits ? 4 : NO);
                int now = isBits ? bits : 4;
                due(x.set(0, 0, order), !isOrder ? NO : order * now > 10 ? HALTED : 1);
                due(x.of(0, 0), isOrder && order * now <= 10 ? order : 1);
                due(x.of(1, 0), now);
            }
        }
    }

    @Says("COEFFICIENTS 1 .. 3 (-99 .. 99; 0 at first; those above n play no part),")
    static void p02_coefficients() {
        CutOffFilter x = new CutOffFilter();
        for (int k = 1; k <= 3; k++) {
            due(x.of(2, k), 0);
            due(x.set(2, k, 100), NO);
            due(x.set(2, k, -100), NO);
            due(x.set(2, k, 99), 0);
            due(x.set(2, k, -99), 99);
            due(x.set(2, k, 10 * k), -99);
        }
        due(x.past(1, 1), 0);
        due(x.past(2, -2), 0);
        due(x.would(0, 1), 10 * 1 + 20 * -2);
        due(x.set(0, 0, 1), 2);
        due(x.past(1, 3), 0);
        due(x.would(0, 1), 10 * 3);
        due(x.set(1, 0, 3), 4);
        due(x.set(0, 0, 3), 1);
        due(x.past(3, 3), 0);
        due(x.would(0, 1), 30 * 3);
    }

    @Says("IN (-99 .. 99; 1 at first), SHIFT s (0 .. 6; 0 at first), a ROUNDING and an OVERFLOW (0 .. 4 each; 0 at first), PLACE (0, 1; 0 at first).")
    static void p03_theOtherNumbers() {
        int[][] lowestHighestFirst = {{3, -99, 99, 1}, {4, 0, 6, 0}, {5, 0, 4, 0}, {6, 0, 4, 0}, {7, 0, 1, 0}};
        for (int[] of : lowestHighestFirst) {
            CutOffFilter x = new CutOffFilter();
            due(x.of(of[0], 0), of[3]);
            due(x.set(of[0], 0, of[1] - 1), NO);
            due(x.set(of[0], 0, of[2] + 1), NO);
            due(x.of(of[0], 0), of[3]);
            int was = of[3];
            for (int v = of[1]; v <= of[2]; v++) {
                due(x.set(of[0], 0, v), was);
                due(x.of(of[0], 0), v);
                was = v;
            }
        }
    }

    // ---- part 1: the past

    @Says("WORDS are whole numbers that w bits hold (from - 2 to the w - 1 to that less 1).")
    static void p04_words() {
        int[][] leastAndGreatest = {{-2, 1}, {-4, 3}, {-8, 7}, {-16, 15}};
        for (int bits = 2; bits <= 5; bits++) {
            CutOffFilter x = shape(1, bits);
            int was = 0;
            for (int v = -20; v <= 20; v++) {
                boolean isOne = v >= leastAndGreatest[bits - 2][0] && v <= leastAndGreatest[bits - 2][1];
                due(x.past(1, v), isOne ? was : NO);
                was = isOne ? v : was;
            }
        }
    }

    @Says("THE PAST: WORDS 1 .. n, WORD 1 being the latest output; all 0 at first.")
    static void p05_thePast() {
        words(new CutOffFilter(), 0, 0);
        for (int order = 1; order <= 3; order++) {
            CutOffFilter x = shape(order, 3);
            due(x.word(0), NO);
            words(x, new int[order]);
            due(x.step(3), 3);
            due(x.word(1), 3);
            due(x.step(-2), -2);
            due(x.word(1), -2);
        }
    }

    @Says("The CODE of a PAST: each WORD plus 2 to the w - 1, as digits to the base 2 to the w, that of WORD 1 the highest.")
    static void p19_theCodeOfAPast() {
        CutOffFilter x = by("b3;n3;y1,1;y2,-2;y3,3");
        due(x.code(), (5 * 8 + 2) * 8 + 7);
        x = by("b5;y1,-16;y2,15");
        due(x.code(), 31);
        x = by("b5;y1,15;y2,-16");
        due(x.code(), 31 * 32);
        x = by("b3;n1;y1,3");
        due(x.code(), 7);
        for (int first = -4; first <= 3; first++) {
            for (int second = -4; second <= 3; second++) {
                x = by("b3;y1," + first + ";y2," + second);
                due(x.code(), (first + 4) * 8 + second + 4);
            }
        }
    }

    // ---- part 1: a step

    @Says("A STEP with an INPUT (-99 .. 99): PRODUCTS are IN times it, and each COEFFICIENT 1 .. n times that WORD of THE PAST; ALL: all of these together.")
    static void p07_productsAndAll() {
        CutOffFilter x = by("b3;n3;i5;c1,3;c2,-2;c3,7;y1,2;y2,-3;y3,1");
        due(x.would(4, 1), 20 + 6 + 6 + 7);
        due(x.would(99, 1), 495 + 19);
        due(x.would(-99, 1), -495 + 19);
        due(x.would(100, 1), NOTHING);
        due(x.would(-100, 1), NOTHING);
        // one PRODUCT at a time
        String[] one = {"b3;n3;i5;y1,2;y2,-3;y3,1", "b3;n3;i0;c1,3;y1,2;y2,-3;y3,1", "b3;n3;i0;c2,-2;y1,2;y2,-3;y3,1", "b3;n3;i0;c3,7;y1,2;y2,-3;y3,1"};
        int[] all = {20, 6, 6, 7};
        for (int i = 0; i < one.length; i++) {
            due(by(one[i]).would(4, 1), all[i]);
        }
    }

    @Says("V: by PLACE 0 ALL ROUNDED, by PLACE 1 each of the PRODUCTS ROUNDED, together.")
    static void p07_vByBothPlaces() {
        for (int rounding = 0; rounding < 5; rounding++) {
            for (int shift = 0; shift <= 6; shift++) {
                CutOffFilter x = by("i7;c1,5;c2,-9;y1,3;y2,7;s" + shift + ";r" + rounding);
                due(x.would(6, 1), 42 + 15 - 63);
                due(x.would(6, 2), x.rounded(rounding, shift, 42 + 15 - 63));
                due(x.set(7, 0, 1), 0);
                due(x.would(6, 1), 42 + 15 - 63);
                due(x.would(6, 2), x.rounded(rounding, shift, 42) + x.rounded(rounding, shift, 15) + x.rounded(rounding, shift, -63));
            }
        }
        // by hand, cut by 4: -6 is -2; 42 is 10, 15 is 3, -63 is -16
        CutOffFilter x = by("i7;c1,5;c2,-9;y1,3;y2,7;s2");
        due(x.would(6, 2), -2);
        due(x.set(7, 0, 1), 0);
        due(x.would(6, 2), 10 + 3 - 16);
    }

    @Says("If V is no WORD, it is OVER, and a WORD comes of it by OVERFLOW, else it is that.")
    static void p07_overAndTheWordThatComesOfV() {
        for (int overflow = 0; overflow < 5; overflow++) {
            for (int[] shape : SHAPES) {
                CutOffFilter x = by("b2;n" + shape[0] + ";b" + shape[1] + ";y1,-1;c1,2;o" + overflow);
                for (int input = -35; input <= 35; input++) {
                    int v = input - 2;
                    due(x.would(input, 2), v);
                    due(x.would(input, 4), isWord(v, shape[1]) ? 0 : 1);
                    due(x.would(input, 0), isWord(v, shape[1]) ? v : x.bounded(overflow, v));
                }
            }
        }
    }

    @Says("That is the output, and WORD 1 of THE PAST; those that were 1 .. n - 1 are 2 .. n.")
    static void p06_theOutputComesAheadOfThePast() {
        CutOffFilter x = by("b3;n3");
        due(x.step(1), 1);
        words(x, 1, 0, 0);
        due(x.step(-2), -2);
        words(x, -2, 1, 0);
        due(x.step(3), 3);
        words(x, 3, -2, 1);
        due(x.step(5), -3);
        words(x, -3, 3, -2);
        x = new CutOffFilter();
        due(x.step(7), 7);
        due(x.step(-8), -8);
        words(x, -8, 7);
        x = by("n1");
        due(x.step(7), 7);
        due(x.step(-8), -8);
        words(x, -8);
    }

    @Says("LOSS of the STEP: V times 2 to the s, less ALL.")
    static void p07_loss() {
        for (int place = 0; place < 2; place++) {
            for (int rounding = 0; rounding < 5; rounding++) {
                CutOffFilter x = by("i3;c1,5;c2,-9;y1,3;y2,7;s3;r" + rounding + ";p" + place);
                for (int input = -20; input <= 20; input++) {
                    due(x.would(input, 3), x.would(input, 2) * 8 - x.would(input, 1));
                }
            }
        }
        // -7 by 4: DOWN -2, CUT -1
        due(by("s2").would(-7, 3), -1);
        due(by("s2;r1").would(-7, 3), 3);
        // V, not the output: 16 by 1 is no WORD
        due(new CutOffFilter().would(16, 3), 0);
    }

    // ---- part 1: rounding

    /** Each number from -200 to 200 by each SHIFT: what comes of it, times 2 to the s, is looked at beside the number. */
    private interface Looked {
        boolean at(int v, int whole, int unit);
    }

    private static void roundsSo(int rounding, Looked looked) {
        for (int shift = 0; shift <= 6; shift++) {
            CutOffFilter x = new CutOffFilter();
            for (int v = -200; v <= 200; v++) {
                holds(looked.at(v, x.rounded(rounding, shift, v), 1 << shift));
            }
            x = new CutOffFilter();
            for (int v = -100000; v <= 100000; v += 997) {
                holds(looked.at(v, x.rounded(rounding, shift, v), 1 << shift));
            }
        }
    }

    private static boolean isCut(int v, int whole, int unit) {
        return Math.abs(whole * unit) <= Math.abs(v) && Math.abs(v) < (Math.abs(whole) + 1) * unit && (whole == 0 || whole > 0 == v > 0);
    }

    @Says("ROUNDED is a number v to a whole one by 2 to the s, by ROUNDING:")
    static void p08_rounded() {
        CutOffFilter x = new CutOffFilter();
        for (int rounding = 0; rounding < 5; rounding++) {
            for (int shift = 0; shift <= 6; shift++) {
                for (int whole = -3; whole <= 3; whole++) {
                    due(x.rounded(rounding, shift, whole << shift), whole);
                }
            }
        }
    }

    @Says("0 DOWN: the greatest that is no more than v by 2 to the s.")
    static void p08_down() {
        roundsSo(0, (v, whole, unit) -> whole * unit <= v && (whole + 1) * unit > v);
    }

    @Says("1 CUT under DOWN: v by 2 to the s, cut toward 0.")
    static void p08_cut() {
        roundsSo(1, TermsTests::isCut);
    }

    @Says("2 NEAR under DOWN: the nearest one, of two the greater.")
    static void p08_near() {
        roundsSo(2, (v, whole, unit) -> 2 * Math.abs(whole * unit - v) < unit || 2 * (whole * unit - v) == unit);
    }

    @Says("3 EVEN under NEAR: the nearest one, of two the even.")
    static void p08_even() {
        roundsSo(3, (v, whole, unit) -> 2 * Math.abs(whole * unit - v) < unit || 2 * Math.abs(whole * unit - v) == unit && whole % 2 == 0);
    }

    @Says("4 AWAY under CUT: what CUT gives, but 1 farther from 0, if v by 2 to the s is not whole.")
    static void p08_away() {
        roundsSo(4, (v, whole, unit) -> v % unit == 0 ? whole * unit == v : isCut(v, v > 0 ? whole - 1 : whole + 1, unit));
    }

    // ---- part 1: overflow

    @Says("OVERFLOW: 0 WRAP: the WORD that differs from V by a multiple of 2 to the w.")
    static void p09_wrap() {
        for (int bits = 2; bits <= 5; bits++) {
            CutOffFilter x = by("n1;b" + bits);
            for (int v = -100; v <= 100; v++) {
                int word = x.bounded(0, v);
                holds(isWord(word, bits) && (word - v) % (1 << bits) == 0);
            }
        }
    }

    @Says("1 CLIP under WRAP: the WORD next to V.")
    static void p09_clip() {
        for (int bits = 2; bits <= 5; bits++) {
            CutOffFilter x = by("n1;b" + bits);
            for (int v = -100; v <= 100; v++) {
                int word = x.bounded(1, v);
                holds(isWord(word, bits) && (word == v || !isWord(v > 0 ? word + 1 : word - 1, bits) && word > 0 == v > 0));
            }
        }
    }

    @Says("2 ZERO under WRAP: 0.")
    static void p09_zero() {
        for (int bits = 2; bits <= 5; bits++) {
            CutOffFilter x = by("n1;b" + bits + ";y1,1");
            for (int v = -100; v <= 100; v++) {
                due(x.bounded(2, v), isWord(v, bits) ? v : 0);
            }
        }
    }

    @Says("3 STAY under CLIP: WORD 1 of THE PAST as it is ahead of the STEP.")
    static void p09_stay() {
        CutOffFilter x = by("b3;n3;o3;y1,-3;y2,1;y3,2");
        for (int v = -100; v <= 100; v++) {
            due(x.bounded(3, v), isWord(v, 3) ? v : -3);
        }
        due(x.step(50), -3);
        words(x, -3, -3, 1);
        due(x.step(2), 2);
        due(x.step(-50), 2);
        words(x, 2, 2, -3);
    }

    @Says("4 HALT under WRAP: none: the FILTER HALTS, the STEP is none, THE PAST stays.")
    static void p09_halt() {
        for (int bits = 2; bits <= 5; bits++) {
            CutOffFilter x = by("n1;b" + bits);
            for (int v = -100; v <= 100; v++) {
                due(x.bounded(4, v), isWord(v, bits) ? v : HALTED);
            }
        }
        CutOffFilter x = by("o4;y1,3;y2,-4");
        due(x.step(8), HALTED);
        due(x.step(-9), HALTED);
        words(x, 3, -4);
        due(x.count(4), 0);
        // the next STEP is as if there had been none
        due(x.step(7), 7);
        words(x, 7, 3);
        due(x.count(4), 1);
    }

    @Says("2 All that follows is asked, and changes nothing, where nothing else is said.")
    static void p11_whatIsAskedChangesNothing() {
        String text = "b3;c1,9;c2,-5;s2;r2;o4;i3;y1,2;y2,-3";
        CutOffFilter asked = by(text);
        CutOffFilter other = by(text);
        for (CutOffFilter x : List.of(asked, other)) {
            fill(x, 0, 0, 1, -2, 3, 2);
            fill(x, 1, 1, 40, 3, -5);
            due(x.step(99), HALTED);
        }
        for (int row = 0; row < 2; row++) {
            asked.output(row, 0);
            asked.run(row, 0);
            asked.noise(row, 0);
            asked.levels(row);
            asked.level(row, 0, 2);
            asked.fits(row, 1 - row, 0);
            asked.judge(row, 1 - row);
        }
        for (int input = -3; input <= 3; input++) {
            asked.next(5, input);
            asked.leads(5, input, 0);
            asked.cycles(input, 0);
            asked.cycle(input, 0, 1);
            asked.onCycle(input, 0, 3);
            asked.quietest(input, 0);
            asked.tamed(input, 4);
            asked.lost(input, 0);
            asked.reach(input + 3, 0);
            asked.scale(input + 3);
        }
        asked.starts();
        asked.code();
        sameAs(asked, other);
    }

    /** That two objects answer alike by all that shows what they hold. */
    private static void sameAs(CutOffFilter x, CutOffFilter y) {
        for (int what = 0; what < 8; what++) {
            for (int k = 1; k <= 3; k++) {
                due(x.of(what, k), y.of(what, k));
            }
        }
        for (int k = 0; k < 5; k++) {
            due(x.word(k), y.word(k));
            due(x.cause(k), y.cause(k));
            due(x.count(k), y.count(k));
            due(x.trace(k), y.trace(k));
        }
        for (int row = 0; row < 4; row++) {
            for (int i = 0; i < 5; i++) {
                due(x.get(row, i), y.get(row, i));
            }
        }
        due(x.code(), y.code());
        due(x.alike(), y.alike());
        for (int i = 0; i < 13; i++) {
            due(x.undo(), y.undo());
        }
        due(x.code(), y.code());
        due(x.starts(), y.starts());
    }

    // ---- part 2: runs

    /** IN 3, cut by 4 to the nearest; inputs beyond 99 among them. */
    private static final long[] TOLD = {5, -7, 100, 2, -1000, 99, 1, Long.MAX_VALUE, Long.MIN_VALUE, -99, 3};

    private static CutOffFilter running(int overflow) {
        CutOffFilter x = by("i3;c1,5;c2,-3;s2;r2;o" + overflow + ";y1,2;y2,-1");
        fill(x, 0, 2, TOLD);
        return x;
    }

    private static int asInput(long number) {
        return number > 99 ? 99 : number < -99 ? -99 : (int) number;
    }

    @Says("RUN of a ROW: STEPS with its numbers as INPUTS (what is beyond -99 .. 99 counts as that bound), one behind another, from THE PAST as it is;")
    static void p10_runOfARow() {
        for (int overflow = 0; overflow < 4; overflow++) {
            CutOffFilter x = running(overflow);
            CutOffFilter steps = running(overflow);
            for (int k = 0; k < TOLD.length; k++) {
                due(x.output(0, k), steps.step(asInput(TOLD[k])));
            }
            words(x, 2, -1);
        }
        // another PAST, another RUN: 3 and 5 times WORD 1, by 4, to the nearest
        CutOffFilter x = by("i3;c1,5;s2;r2");
        fill(x, 0, 0, 1, 1);
        outputs(x, 0, 1, 2);
        due(x.past(1, 4), 0);
        outputs(x, 0, 6, -8);
    }

    @Says("it ends with the ROW, or as it HALTS.")
    static void p11_whereARunEnds() {
        CutOffFilter x = running(0);
        due(x.run(0, 0), TOLD.length);
        due(x.run(0, 2), 0);
        x = running(4);
        CutOffFilter steps = running(4);
        int made = 0;
        while (made < TOLD.length && steps.step(asInput(TOLD[made])) != HALTED) {
            made++;
        }
        holds(made > 0 && made < TOLD.length);
        due(x.run(0, 0), made);
        due(x.run(0, 2), 1);
        due(x.output(0, made - 1), steps.word(1));
        due(x.output(0, made), NONE);
    }

    private static List<Integer> lossesOf(CutOffFilter steps) {
        List<Integer> losses = new ArrayList<>();
        for (long number : TOLD) {
            int loss = steps.would(asInput(number), 3);
            if (steps.step(asInput(number)) == HALTED) {
                return losses;
            }
            losses.add(loss);
        }
        return losses;
    }

    @Says("NOISE of a RUN: LOSSES of its STEPS without sign, together, by 2 to the s (a fraction in lowest terms; 0 as 0 over 1).")
    static void p13_noiseOfARun() {
        for (int overflow = 0; overflow < 5; overflow++) {
            CutOffFilter x = running(overflow);
            int together = lossesOf(running(overflow)).stream().mapToInt(Math::abs).sum();
            isFraction(x.noise(0, 0), x.noise(0, 1), together, 4);
        }
        CutOffFilter x = by("s4");
        fill(x, 0, 0, 16, -32, 0);
        due(x.noise(0, 0), 0);
        due(x.noise(0, 1), 1);
        // 2 of 16 DOWN from 2, 14 of 16 DOWN from -2
        fill(x, 0, 0, 2, -2);
        due(x.noise(0, 0), 1);
        due(x.noise(0, 1), 1);
        fill(x, 0, 0, 2, 2);
        due(x.noise(0, 0), 1);
        due(x.noise(0, 1), 4);
    }

    @Says("LEVELS of a RUN: unlike LOSSES of its STEPS by 2 to the s, as fractions in lowest terms, numbered from 0 on as the first such comes, each with how often it does.")
    static void p15_levelsOfARun() {
        for (int overflow = 0; overflow < 5; overflow++) {
            CutOffFilter x = running(overflow);
            List<Integer> losses = lossesOf(running(overflow));
            List<Integer> unlike = new ArrayList<>(new LinkedHashSet<>(losses));
            due(x.levels(0), unlike.size());
            for (int k = 0; k < unlike.size(); k++) {
                int loss = unlike.get(k);
                isFraction(x.level(0, k, 0), x.level(0, k, 1), loss, 4);
                due(x.level(0, k, 2), losses.stream().filter(one -> one == loss).count());
            }
            due(x.level(0, unlike.size(), 0), NOTHING);
        }
        // DOWN by 4: -3 of 4, -2 of 4 (a half), none, -3 of 4 again
        CutOffFilter x = by("s2");
        fill(x, 0, 0, 3, 2, 0, -1, 6, 4);
        due(x.levels(0), 3);
        level(x, 0, 0, -3, 4, 2);
        level(x, 0, 1, -1, 2, 2);
        level(x, 0, 2, 0, 1, 2);
    }

    // ---- part 2: all starts

    @Says("STARTS are all PASTS there can be, by CODES 0 on.")
    static void p18_starts() {
        int[] due = {4, 8, 16, 32, 16, 64, 256, 1024, 64, 512};
        for (int i = 0; i < SHAPES.length; i++) {
            CutOffFilter x = shape(SHAPES[i][0], SHAPES[i][1]);
            due(x.starts(), due[i]);
            due(x.next(-1, 0), BAD);
            holds(x.next(0, 0) >= 0);
            holds(x.next(due[i] - 1, 0) >= 0);
            due(x.next(due[i], 0), BAD);
        }
        // each PAST has a CODE of its own
        Set<Integer> codes = new HashSet<>();
        for (int first = -2; first <= 1; first++) {
            for (int second = -2; second <= 1; second++) {
                codes.add(by("b2;y1," + first + ";y2," + second).code());
            }
        }
        due(codes.size(), 16);
    }

    /** Where each START leads by INPUT 1, by the answers of next() alone. */
    private static int[] onward(String text, int input) {
        CutOffFilter x = by(text);
        int[] onward = new int[x.starts()];
        for (int code = 0; code < onward.length; code++) {
            onward[code] = x.next(code, input);
        }
        return onward;
    }

    /** The CODES of the CYCLE that a START comes to, from the least one on; none: it is STUCK. */
    private static List<Integer> cycleFrom(int[] onward, int start) {
        int at = start;
        for (int i = 0; i < onward.length && at >= 0; i++) {
            at = onward[at];
        }
        List<Integer> round = new ArrayList<>();
        while (at >= 0 && !round.contains(at)) {
            round.add(at);
            at = onward[at];
        }
        Collections.rotate(round, round.isEmpty() ? 0 : -round.indexOf(Collections.min(round)));
        return round;
    }

    private static TreeMap<Integer, List<Integer>> cyclesOf(int[] onward) {
        TreeMap<Integer, List<Integer>> cycles = new TreeMap<>();
        for (int start = 0; start < onward.length; start++) {
            List<Integer> round = cycleFrom(onward, start);
            if (!round.isEmpty()) {
                cycles.put(round.get(0), round);
            }
        }
        return cycles;
    }

    @Says("By an INPUT that stays the same each START leads on, STEP by STEP: it comes to a CYCLE (PASTS that go round), or is STUCK: it HALTS.")
    static void p21_whereEachStartLeads() {
        for (String text : NARROW) {
            int[] onward = onward(text, 1);
            CutOffFilter x = by(text);
            int stuck = 0;
            for (int start = 0; start < onward.length; start++) {
                List<Integer> round = cycleFrom(onward, start);
                stuck += round.isEmpty() ? 1 : 0;
                due(x.leads(start, 1, 1), round.isEmpty() ? STATE : round.size());
                // a STEP truly done from there leads to the same PAST
                if (start % 16 == 5) {
                    CutOffFilter truly = by(text);
                    int order = truly.of(0, 0);
                    int bits = truly.of(1, 0);
                    for (int k = order, left = start; k >= 1; k--, left >>= bits) {
                        truly.past(k, (left & ((1 << bits) - 1)) - (1 << (bits - 1)));
                    }
                    due(truly.code(), start);
                    due(truly.step(1) == HALTED ? STATE : truly.code(), onward[start]);
                }
            }
            due(x.cycles(1, 1), stuck);
        }
    }

    @Says("TAIL: how many STEPS it takes till it is on the CYCLE.")
    static void p21_tail() {
        for (String text : NARROW) {
            int[] onward = onward(text, 1);
            CutOffFilter x = by(text);
            int longest = 0;
            for (int start = 0; start < onward.length; start++) {
                List<Integer> round = cycleFrom(onward, start);
                int tail = 0;
                for (int at = start; !round.isEmpty() && !round.contains(at); at = onward[at]) {
                    tail++;
                }
                due(x.leads(start, 1, 0), round.isEmpty() ? STATE : tail);
                longest = Math.max(longest, tail);
            }
            due(x.cycles(1, 2), longest);
        }
    }

    @Says("CYCLES are numbered from 0 on by the least CODE that is on them.")
    static void p23_howCyclesAreNumbered() {
        for (String text : NARROW) {
            int[] onward = onward(text, 1);
            CutOffFilter x = by(text);
            int k = 0;
            for (int least : cyclesOf(onward).keySet()) {
                due(x.cycle(1, k, 0), least);
                due(x.leads(least, 1, 2), k);
                due(x.onCycle(1, k, 0), least);
                k++;
            }
            due(x.cycle(1, k, 0), NOT);
            due(x.cycles(1, 0), k);
        }
    }

    @Says("PERIOD: how many PASTS are on one; AMPLITUDE: the greatest WORD 1 without sign of these; BASIN: from how many STARTS one comes to it.")
    static void p23_periodAmplitudeBasin() {
        for (String text : NARROW) {
            int[] onward = onward(text, 1);
            CutOffFilter x = by(text);
            int k = 0;
            int onCycles = 0;
            int loudest = -1;
            for (List<Integer> round : cyclesOf(onward).values()) {
                int amplitude = 0;
                for (int code : round) {
                    amplitude = Math.max(amplitude, Math.abs(latest(code, x.of(0, 0), x.of(1, 0))));
                }
                int basin = 0;
                for (int start = 0; start < onward.length; start++) {
                    basin += cycleFrom(onward, start).equals(round) ? 1 : 0;
                }
                due(x.cycle(1, k, 1), round.size());
                due(x.cycle(1, k, 2), amplitude);
                due(x.cycle(1, k, 3), basin);
                onCycles += round.size();
                loudest = Math.max(loudest, amplitude);
                k++;
            }
            due(x.cycles(1, 3), k == 0 ? 99 : loudest);
            due(x.cycles(1, 4), onCycles);
        }
    }

    // ---- part 2: scales, kinds

    /** The CODES that come by STEPS from that of all 0, by the answers of next() alone. */
    private static Set<Integer> reachOf(String text, int b) {
        int zero = by(text + zeros(text)).code();
        int[][] onward = new int[2 * b + 1][];
        for (int input = -b; input <= b; input++) {
            onward[input + b] = onward(text, input);
        }
        Set<Integer> found = new HashSet<>(Set.of(zero));
        for (int before = 0; before < found.size(); ) {
            before = found.size();
            for (int code : List.copyOf(found)) {
                for (int[] by : onward) {
                    if (by[code] >= 0) {
                        found.add(by[code]);
                    }
                }
            }
        }
        return found;
    }

    private static String zeros(String text) {
        int order = by(text).of(0, 0);
        return order == 1 ? ";y1,0" : order == 2 ? ";y1,0;y2,0" : ";y1,0;y2,0;y3,0";
    }

    /** Whether a STEP from one of these PASTS with an INPUT from -b to b is OVER: by HALT it would be none. */
    private static boolean isAnyOver(String text, Set<Integer> codes, int b) {
        String halting = text.replaceAll(";o\\d", "") + ";o4";
        for (int input = -b; input <= b; input++) {
            int[] onward = onward(halting, input);
            for (int code : codes) {
                if (onward[code] < 0) {
                    return true;
                }
            }
        }
        return false;
    }

    @Says("REACH of b (0 .. 20): PASTS that can come by STEPS from that of all 0 (that one, too), each with any INPUT from -b to b.")
    static void p25_reach() {
        for (String text : NARROW) {
            CutOffFilter x = by(text);
            for (int b = 0; b <= 4; b++) {
                Set<Integer> found = reachOf(text, b);
                due(x.reach(b, 0), found.size());
                due(x.reach(b, 1), isAnyOver(text, found, b) ? 1 : 0);
            }
            due(x.reach(-1, 0), BAD);
            holds(x.reach(20, 0) >= x.reach(4, 0));
            due(x.reach(21, 0), BAD);
        }
        // THE PAST as it is plays no part
        CutOffFilter x = by("y1,7;y2,-8;i0");
        due(x.reach(20, 0), 1);
    }

    @Says("SCALE of b (0 .. 20): the least k (0 .. 6) such that with INPUTS from -c to c, c being b by 2 to the k, cut, no STEP from any PAST in REACH of c is OVER; NOT.")
    static void p26_scale() {
        for (String text : NARROW) {
            CutOffFilter x = by(text);
            for (int b : new int[] {0, 1, 2, 3, 5, 8, 13, 20}) {
                int k = 0;
                while (k <= 6 && x.reach(b >> k, 1) == 1) {
                    k++;
                }
                due(x.scale(b), k > 6 ? NOT : k);
            }
            due(x.scale(-1), BAD);
            due(x.scale(21), BAD);
        }
        // 4 bits, IN 1: inputs up to 7 are WORDS; 20 is 10 is 5, 15 is 7
        CutOffFilter x = new CutOffFilter();
        due(x.scale(7), 0);
        due(x.scale(8), 1);
        due(x.scale(15), 1);
        due(x.scale(16), 2);
        due(x.scale(20), 2);
    }

    @Says("QUIETEST by an INPUT: the ROUNDING by which, were it so, the greatest AMPLITUDE of all CYCLES would be least (no CYCLES: 99), of like ones the first; that.")
    static void p27_quietest() {
        for (String text : NARROW) {
            for (int input = -2; input <= 2; input++) {
                int best = 0;
                int least = 100;
                for (int rounding = 0; rounding < 5; rounding++) {
                    int loudest = by(text + ";r" + rounding).cycles(input, 3);
                    if (loudest < least) {
                        best = rounding;
                        least = loudest;
                    }
                }
                CutOffFilter x = by(text);
                due(x.quietest(input, 0), best);
                due(x.quietest(input, 1), least);
            }
        }
        // all HALT by 9, whatever the ROUNDING
        CutOffFilter x = by("o4;r3");
        due(x.quietest(9, 0), 0);
        due(x.quietest(9, 1), 99);
    }

    @Says("TAMED by an INPUT to a (0 .. 99): the greatest number for COEFFICIENT 1 (-99 .. 99) by which, were it so, all CYCLES would have an AMPLITUDE of a or less, and no START were STUCK; NOT.")
    static void p28_tamed() {
        for (String text : NARROW) {
            for (int input = 0; input <= 1; input++) {
                int[] loudest = new int[199];
                boolean[] isAnyStuck = new boolean[199];
                for (int v = -99; v <= 99; v++) {
                    CutOffFilter tried = by(text + ";c1," + v);
                    loudest[v + 99] = tried.cycles(input, 3);
                    isAnyStuck[v + 99] = tried.cycles(input, 1) > 0;
                }
                CutOffFilter x = by(text);
                for (int a : new int[] {0, 1, 2, 3, 4, 15, 16, 99}) {
                    int greatest = NONE;
                    for (int v = -99; v <= 99; v++) {
                        greatest = loudest[v + 99] <= a && !isAnyStuck[v + 99] ? v : greatest;
                    }
                    due(x.tamed(input, a), greatest);
                }
            }
        }
        CutOffFilter x = by("o4");
        due(x.tamed(0, -1), NO);
        due(x.tamed(0, 100), NO);
        due(x.tamed(9, 99), NONE);
    }

    @Says("LOST by an INPUT: LOSSES of the STEPS from all STARTS without sign, together (HALTING ones, too), by 2 to the s and by how many STARTS there are: a fraction in lowest terms (0 as 0 over 1).")
    static void p29_lost() {
        for (int overflow = 0; overflow < 5; overflow += 4) {
            String text = "b2;i3;c1,5;c2,-3;s2;r2;o" + overflow;
            int together = 0;
            for (int first = -2; first <= 1; first++) {
                for (int second = -2; second <= 1; second++) {
                    together += Math.abs(by(text + ";y1," + first + ";y2," + second).would(1, 3));
                }
            }
            CutOffFilter x = by(text);
            isFraction(x.lost(1, 0), x.lost(1, 1), together, 4 * 16);
        }
        CutOffFilter x = new CutOffFilter();
        due(x.lost(99, 0), 0);
        due(x.lost(99, 1), 1);
        // 3 of 4 from each START, halting ones, too
        x = by("s2;o4");
        due(x.lost(99, 0), 3);
        due(x.lost(99, 1), 4);
    }

    // ---- part 2: told outputs

    /** Whether the RUN of ROW 0 has the numbers of ROW 1 as its first outputs. */
    private static boolean hasAsFirst(CutOffFilter x, int size) {
        for (int k = 0; k < size; k++) {
            if (x.output(0, k) == NONE || x.output(0, k) != x.get(1, k)) {
                return false;
            }
        }
        return true;
    }

    @Says("FITS: a ROW of INPUTS, a ROW of outputs: by ROUNDINGS, OVERFLOWS, SHIFTS, PLACES (bits), or a number for COEFFICIENT 1 (-99 .. 99: how many, the least; NOT), were it so, the RUN of the first has the outputs of the second as its first ones (one that is shorter has not).")
    static void p30_fits() {
        String text = "i3;c1,5;c2,-3;s2;r2;o1;y1,2;y2,-1";
        String letters = "rosp";
        int[] most = {4, 4, 6, 1};
        long[][] told = {{}, {6}, {6, 2}, {6, 3, -3}, {7, 7}, {5, 1, -2, 0}};
        for (long[] second : told) {
            CutOffFilter x = by(text);
            fill(x, 0, 0, 5, -7, 2);
            fill(x, 1, 0, second);
            for (int what = 0; what < 4; what++) {
                int bits = 0;
                for (int v = 0; v <= most[what]; v++) {
                    CutOffFilter tried = by(text + ";" + letters.charAt(what) + v);
                    fill(tried, 0, 0, 5, -7, 2);
                    fill(tried, 1, 0, second);
                    bits += hasAsFirst(tried, second.length) ? 1 << v : 0;
                }
                due(x.fits(0, 1, what), bits);
            }
            int many = 0;
            int least = NONE;
            for (int v = 99; v >= -99; v--) {
                CutOffFilter tried = by(text + ";c1," + v);
                fill(tried, 0, 0, 5, -7, 2);
                fill(tried, 1, 0, second);
                boolean isOne = hasAsFirst(tried, second.length);
                many += isOne ? 1 : 0;
                least = isOne ? v : least;
            }
            due(x.fits(0, 1, 4), many);
            due(x.fits(0, 1, 5), least);
        }
        // 40 numbers are more than the RUN of 3 has, though it begins as they do
        CutOffFilter x = new CutOffFilter();
        fill(x, 0, 0, 1, 2, 3);
        fill(x, 1, 0, 1, 2, 3, 0);
        due(x.fits(0, 1, 0), 0);
        due(x.fits(0, 1, 5), NONE);
        due(x.fits(1, 0, 0), 31);
    }

    @Says("JUDGED: the first place at which the second tells another output than the RUN of the first has, or one more than that has; 100 and how many were looked at, if it ends ahead of that; -2: none.")
    static void p31_judged() {
        CutOffFilter x = new CutOffFilter();
        fill(x, 0, 0, 1, 2, 3);
        long[][] second = {{2}, {1, 3, 4}, {1, 2, 4, 9}, {1, 2, 3, 4}, {1, 2, 3, 3, 3}, {}, {1}, {1, 2}, {1, 2, 3}};
        int[] due = {0, 1, 2, 3, 3, 100, 101, 102, -2};
        for (int i = 0; i < second.length; i++) {
            fill(x, 1, 2, second[i]);
            due(x.judge(0, 1), due[i]);
        }
        // the RUN ends as it HALTS: it has 2 outputs
        x = by("o4");
        fill(x, 0, 0, 1, 2, 8, 3);
        int[] dueByHalt = {0, 1, 2, 2, 2, 100, 101, -2, 2};
        for (int i = 0; i < second.length; i++) {
            fill(x, 1, 2, second[i]);
            due(x.judge(0, 1), dueByHalt[i]);
        }
    }

    // ---- part 2: measured

    @Says("MEASURED is the RUN of a ROW by a UNIT (1 .. 2000000000): STEP by STEP, with a SUM of 0 at first: SQUARE is the output times itself times UNIT; SUM becomes SUM plus SQUARE.")
    static void p16_measured() {
        CutOffFilter x = new CutOffFilter();
        fill(x, 0, 0, 3, -5, 0, 2);
        fill(x, 1, 0);
        fill(x, 2, 0, 1);
        due(x.measure(0, 1), 9 + 25 + 4);
        due(x.measure(0, 1000), 38000);
        due(x.measure(1, 2000000000), 0);
        due(x.measure(2, 2000000000), 2000000000);
        due(x.measure(2, 2000000001), VOID);
        due(x.measure(2, 0), VOID);
        for (int unit = 1; unit <= 100; unit++) {
            due(x.measure(0, unit), 38 * unit);
        }
    }

    @Says("The first of these numbers that is no int (above 2147483647) is TOO MUCH.")
    static void p16_tooMuch() {
        CutOffFilter x = new CutOffFilter();
        // 2147483646 is an int, and SUM with it; 1 more SQUARE is above
        fill(x, 0, 0, 1, 1);
        due(x.measure(0, 1073741823), 2147483646);
        due(x.cause(0), NONE);
        due(x.measure(0, 1073741824), ENDED);
        causes(x, 1, 2, 1073741824);
        // 4 times that is no int by itself
        fill(x, 0, 0, 1, 2);
        due(x.measure(0, 536870912), ENDED);
        causes(x, 1, 1, 2);
        due(x.measure(0, 536870911), ENDED);
        causes(x, 1, 2, 2147483644);
        // the first: the SUM of the first two, not the SQUARE of the third
        fill(x, 0, 0, 1, 1, 7);
        due(x.measure(0, 2000000000), ENDED);
        causes(x, 1, 2, 2000000000);
    }

    @Says("THE CAUSES (none at first) are told by step(), go(), measure(), as one of these ends by HALT or by what is TOO MUCH: which STEP of it (from 0 on), what (0 HALT, 1 SQUARE, 2 SUM), which number: V by 0, the output by 1, the SQUARE by 2.")
    static void p17_theCauses() {
        CutOffFilter x = by("c1,2;o4");
        for (int k = 0; k < 3; k++) {
            due(x.cause(k), NONE);
        }
        fill(x, 0, 0, 1, 1, 4, 0);
        due(x.step(3), 3);
        due(x.cause(0), NONE);
        due(x.step(5), HALTED);
        causes(x, 0, 0, 11);
        // 7, then V 15
        due(x.go(0), 1);
        causes(x, 1, 0, 15);
        due(x.past(1, 0), 7);
        // 1, 3, then V 10
        due(x.measure(0, 1), ENDED);
        causes(x, 2, 0, 10);
        due(x.measure(0, 2000000000), ENDED);
        causes(x, 1, 1, 3);
        due(x.measure(0, 238000000), ENDED);
        causes(x, 1, 2, 9 * 238000000);
        due(x.go(0), 2);
        causes(x, 2, 0, 10);
    }

    // ---- part 3: the tape

    private static int readNew(String text) {
        return read(new CutOffFilter(), text);
    }

    @Says("3 THE TAPE holds 0 .. 80 bytes 32 .. 126.")
    static void p32_theTape() {
        CutOffFilter x = new CutOffFilter();
        due(x.count(2), 0);
        due(x.feed(31), BAD);
        due(x.feed(127), BAD);
        for (int letter = 32; letter <= 126; letter++) {
            due(x.feed(letter), letter < 112 ? letter - 31 : FULL);
        }
        due(x.count(2), 80);
        due(x.wipe(), 80);
        for (int letter = 112; letter <= 126; letter++) {
            due(x.feed(letter), letter - 111);
        }
    }

    @Says("A TEXT: ACTS, one or more, parted by ; : a letter, then numbers with a comma between, each of 1 or 2 figures, perhaps with a - ahead:")
    static void p34_aText() {
        due(readNew("i3"), 1);
        due(readNew("i03"), 1);
        due(readNew("i-3"), 1);
        due(readNew("i-03"), 1);
        due(readNew("i-0"), 1);
        due(readNew("c1,2"), 1);
        due(readNew("c01,-02"), 1);
        due(readNew("i3;c1,2;s1"), 3);
        due(readNew("i3;".repeat(26) + "i3"), 27);
        due(readNew(""), -100);
        due(readNew(";i3"), -100);
        due(readNew("i3;"), -103);
        due(readNew("i3;;i3"), -103);
        due(readNew("3"), -100);
        due(readNew("ii3"), -101);
        due(readNew("i--3"), -102);
        due(readNew("i3-"), -102);
        due(readNew("i+3"), -101);
        due(readNew("c1;2"), -102);
        due(readNew("c,1"), -101);
        due(readNew("c1,,2"), -103);
        due(readNew("c1,2,3"), -104);
        due(readNew("i3,2"), -102);
    }

    /** An act that sets one of the numbers: what of it is then so. */
    private static void sets(String act, int what, int k, int v) {
        CutOffFilter x = new CutOffFilter();
        CutOffFilter y = new CutOffFilter();
        due(read(x, act), 1);
        due(x.of(what, k), v);
        due(x.count(0), 1);
        y.set(what, k, v);
        sameAs(x, y);
    }

    @Says("n ORDER;")
    static void p34_nOrder() {
        sets("n1", 0, 0, 1);
    }

    @Says("b BITS;")
    static void p34_bBits() {
        sets("b5", 1, 0, 5);
    }

    @Says("c COEFFICIENT (its number), v;")
    static void p34_cCoefficient() {
        sets("c1,12", 2, 1, 12);
        sets("c2,-99", 2, 2, -99);
        sets("c3,99", 2, 3, 99);
    }

    @Says("i IN;")
    static void p34_iIn() {
        sets("i-45", 3, 0, -45);
    }

    @Says("s SHIFT;")
    static void p34_sShift() {
        sets("s6", 4, 0, 6);
    }

    @Says("r ROUNDING;")
    static void p34_rRounding() {
        sets("r3", 5, 0, 3);
    }

    @Says("o OVERFLOW;")
    static void p34_oOverflow() {
        sets("o4", 6, 0, 4);
    }

    @Says("p PLACE;")
    static void p34_pPlace() {
        sets("p1", 7, 0, 1);
    }

    @Says("y WORD of THE PAST (its number), v;")
    static void p34_yWord() {
        CutOffFilter x = by("y1,7;y2,-8");
        words(x, 7, -8);
        due(x.count(0), 0);
        due(x.count(4), 0);
        due(read(x, "y3,1"), -200);
        due(read(x, "y1,8"), -200);
        words(x, 7, -8);
    }

    @Says("x INPUT (a STEP, as step()).")
    static void p34_xInput() {
        CutOffFilter x = by("c1,2;x3;x-2;x04");
        CutOffFilter y = by("c1,2");
        due(y.step(3), 3);
        due(y.step(-2), 4);
        due(y.step(4), -4);
        words(x, -4, 4);
        due(x.count(4), 3);
        sameAs(x, y);
    }

    @Says("No blanks.")
    static void p34_noBlanks() {
        due(readNew(" i3"), -100);
        due(readNew("i 3"), -101);
        due(readNew("i- 3"), -102);
        due(readNew("i3 "), -102);
        due(readNew("i33 "), -103);
        due(readNew("i3; i3"), -103);
        due(readNew("c1, 2"), -103);
        due(readNew("c1 ,2"), -102);
    }

    @Says("FAULT: the first byte with which no such text goes on (a third figure, too), or the length, if it ends too early: -100 less it.")
    static void p34_fault() {
        due(readNew("i123"), -103);
        due(readNew("i-123"), -104);
        due(readNew("c001,1"), -103);
        due(readNew("c1,001"), -105);
        due(readNew("i1;s0;r1z"), -108);
        due(readNew("z"), -100);
        due(readNew("i"), -101);
        due(readNew("i-"), -102);
        due(readNew("c1"), -102);
        due(readNew("c1,"), -103);
        due(readNew("c1,-"), -104);
        due(readNew("i1;s0;"), -106);
        due(readNew("i3;".repeat(24) + "i33;".repeat(2)), -180);
        // each byte ahead of a FAULT is part of some text: without it and what is behind, the text ends too early, or is one
        String text = "n2;b4;c1,-12;i-1;s06;r1;o0;p0;y2,7;x12";
        for (int length = 0; length < text.length(); length++) {
            int answer = readNew(text.substring(0, length));
            boolean isText = text.substring(0, length).matches("([nbisropx]-?\\d\\d?|[cy]-?\\d\\d?,-?\\d\\d?)(;([nbisropx]-?\\d\\d?|[cy]-?\\d\\d?,-?\\d\\d?))*");
            due(answer, isText ? text.substring(0, length).split(";").length : -100 - length);
            due(readNew(text.substring(0, length) + "+"), -100 - length);
        }
    }

    @Says("An ACT refused (as the call would be; by HALT, too): -200 less the number of ACTS ahead of it: those ahead are done, those behind are not.")
    static void p34_anActRefused() {
        CutOffFilter x = new CutOffFilter();
        due(read(x, "i2;c1,3;s7;r1;x1"), -202);
        due(x.of(3, 0), 2);
        due(x.of(2, 1), 3);
        due(x.of(4, 0), 0);
        due(x.of(5, 0), 0);
        due(x.count(4), 0);
        // ORDER times BITS above 10
        due(read(x, "s1;n3;s2"), -201);
        due(x.of(4, 0), 1);
        due(x.of(0, 0), 2);
        // 20 by 2 is no WORD
        due(read(x, "o4;x2;x10;x1"), -202);
        words(x, 2, 0);
        due(x.count(4), 1);
        causes(x, 0, 0, 13);
        due(read(x, "x99"), -200);
    }

    @Says("The whole text is looked at for a FAULT ahead of the first ACT;")
    static void p34_faultsAheadOfActs() {
        CutOffFilter x = new CutOffFilter();
        CutOffFilter untouched = new CutOffFilter();
        due(read(x, "i2;c1,3;y1,5;x3;s"), -117);
        due(read(x, "s9;x"), -104);
        due(read(x, "n1;n3;n9;999"), -109);
        sameAs(x, untouched);
    }

    @Says("a number out of its range is refused, no FAULT.")
    static void p34_outOfRangeIsNoFault() {
        String[] acts = {"n0", "n4", "n-1", "b1", "b6", "c0,1", "c4,1", "c-1,1", "s7", "s-1", "s99", "r5", "r-1", "o5", "o-1", "p2", "p-1", "y0,1", "y3,1", "y1,8", "y1,-9"};
        for (String act : acts) {
            due(readNew(act), -200);
            due(readNew("i5;" + act + ";i6"), -201);
        }
    }

    // ---- part 3: changes

    @Says("THE PAST becomes all 0, whenever ORDER or BITS becomes another one (by set(), read(), undo(), redo()).")
    static void p43_thePastBecomesAll0() {
        for (int what = 0; what < 2; what++) {
            CutOffFilter x = by("y1,1;y2,-2");
            due(x.set(what, 0, what == 0 ? 1 : 3), what == 0 ? 2 : 4);
            due(x.word(1), 0);
            due(x.past(1, 1), 0);
            due(x.undo(), 0);
            words(x, 0, 0);
            due(x.past(1, 1), 0);
            due(x.past(2, 1), 0);
            due(x.redo(), 0);
            due(x.word(1), 0);
            due(x.past(1, 1), 0);
            due(read(x, what == 0 ? "n2" : "b4"), 1);
            words(x, 0, 0);
            // what is so already is no other one
            due(x.past(1, 1), 0);
            due(x.past(2, -2), 0);
            due(read(x, "n2;b4"), 2);
            due(x.set(0, 0, 2), 2);
            due(x.set(1, 0, 4), 4);
            words(x, 1, -2);
        }
        // another number leaves it
        CutOffFilter x = by("y1,1;y2,-2;s1;c1,5");
        due(x.undo(), 1);
        due(x.redo(), 0);
        words(x, 1, -2);
    }

    @Says("CHANGES: what set() (by read(), too) made otherwise can be UNDONE, the latest first, 12 at most (then the eldest is none any more), and DONE AGAIN, as long as no other one came behind;")
    static void p44_changes() {
        CutOffFilter x = new CutOffFilter();
        for (int v = 1; v <= 14; v++) {
            due(v % 2 == 0 ? x.set(2, 1, v) : read(x, "c1," + v), v % 2 == 0 ? v - 1 : 1);
            due(x.count(0), Math.min(v, 12));
        }
        for (int v = 13; v >= 2; v--) {
            due(x.undo(), v - 2);
            due(x.of(2, 1), v);
            due(x.count(1), 14 - v);
        }
        due(x.undo(), STATE);
        due(x.of(2, 1), 2);
        for (int v = 3; v <= 8; v++) {
            due(x.redo(), 14 - v);
            due(x.of(2, 1), v);
        }
        due(x.count(0), 6);
        due(x.set(3, 0, 9), 1);
        due(x.redo(), STATE);
        due(x.count(0), 7);
        due(x.undo(), 6);
        due(x.of(3, 0), 1);
        due(x.undo(), 5);
        due(x.of(2, 1), 7);
    }

    @Says("telling what is so already is none.")
    static void p44_whatIsSoAlreadyIsNoChange() {
        CutOffFilter x = by("c1,5;c1,6");
        due(x.undo(), 1);
        due(x.set(2, 1, 5), 5);
        due(read(x, "c1,5;n2;b4;i1;s0;r0;o0;p0"), 8);
        due(x.count(0), 1);
        due(x.count(1), 1);
        due(x.redo(), 0);
        due(x.of(2, 1), 6);
    }

    @Says("THE PAST is in none;")
    static void p43_thePastIsInNoChange() {
        CutOffFilter x = by("c1,1;y1,3;y2,4");
        due(x.step(1), 4);
        due(x.past(2, 5), 3);
        due(x.count(0), 1);
        due(x.undo(), 0);
        words(x, 4, 5);
        due(x.past(1, 6), 4);
        due(x.count(1), 1);
        due(x.redo(), 0);
        words(x, 6, 5);
    }

    @Says("back() leaves none (where it is not refused).")
    static void p47_backLeavesNoChanges() {
        CutOffFilter x = by("c1,1;c1,2;c1,3");
        due(x.undo(), 2);
        due(x.back(), STATE);
        due(x.count(0), 2);
        due(x.count(1), 1);
        due(x.image(), 136);
        due(x.back(), 136);
        due(x.count(0), 0);
        due(x.count(1), 0);
        due(x.undo(), STATE);
        due(x.redo(), STATE);
        due(x.of(2, 1), 2);
    }

    // ---- part 3: rows, the image

    @Says("ROWS 0 .. 3 are missing (at first), or hold 0 .. 40 numbers of a sort: 0 bytes, 1 ints, 2 longs: -11 it is missing, -12 another sort, -13 a place outside, -14 a size below 0.")
    static void p35_rows() {
        CutOffFilter x = new CutOffFilter();
        for (int row = 0; row < 4; row++) {
            due(x.put(row, 0, 1), MISSING);
            due(x.get(row, 0), VOID);
        }
        due(x.row(-1, 0, 1), BAD);
        due(x.row(4, 0, 1), BAD);
        due(x.row(0, 0, 40), 1);
        due(x.row(1, 1, 40), 1);
        due(x.row(2, 2, 40), 1);
        due(x.row(3, 0, 0), 1);
        due(x.row(3, 0, 41), BAD);
        due(x.row(3, 0, -1), TOO_SMALL);
        due(x.row(3, 3, 1), BAD);
        due(x.count(3), 4);
        long v = 0x1234567890ABCDEFL;
        for (int row = 0; row < 3; row++) {
            due(x.put(row, 39, v), 1);
            due(x.put(row, 40, v), OUTSIDE);
            due(x.put(row, -1, v), OUTSIDE);
        }
        due(x.get(0, 39), (byte) 0xEF);
        due(x.get(1, 39), (int) 0x90ABCDEFL);
        due(x.get(2, 39), v);
        due(x.put(3, 0, 1), OUTSIDE);
        due(x.copy(0, 0, 1, 0, 1), UNLIKE);
        due(x.copy(0, 0, 3, 0, 1), OUTSIDE);
        due(x.row(3, -1, 0), 1);
        due(x.copy(0, 0, 3, 0, 1), MISSING);
        due(x.count(3), 3);
    }

    @Says("THE IMAGE: all numbers of the FILTER and THE PAST;")
    static void p45_theImage() {
        CutOffFilter x = by("b3;n3;c1,-1;c2,22;c3,-33;i-4;s5;r3;o2;p1;y1,1;y2,-2;y3,3");
        due(x.image(), (5 * 8 + 2) * 8 + 7);
        due(read(x, "n1;b5;c1,9;c2,8;c3,7;i6;s4;r1;o1;p0;y1,9"), 11);
        due(x.back(), (5 * 8 + 2) * 8 + 7);
        int[] due = {3, 3, 0, -4, 5, 3, 2, 1};
        for (int what = 0; what < 8; what++) {
            if (what != 2) {
                due(x.of(what, 0), due[what]);
            }
        }
        due(x.of(2, 1), -1);
        due(x.of(2, 2), 22);
        due(x.of(2, 3), -33);
        words(x, 1, -2, 3);
    }

    @Says("ALIKE: all of these are now as it has them.")
    static void p46_alike() {
        CutOffFilter x = by("b3;n3;y1,1;y2,-2;y3,3");
        due(x.alike(), STATE);
        due(x.image(), (5 * 8 + 2) * 8 + 7);
        due(x.alike(), 1);
        String[][] thereAndBack = {
            {"n2", "n3;y1,1;y2,-2;y3,3"}, {"b2", "b3;y1,1;y2,-2;y3,3"}, {"c1,1", "c1,0"}, {"c2,1", "c2,0"}, {"c3,1", "c3,0"}, {"i2", "i1"},
            {"s1", "s0"}, {"r1", "r0"}, {"o1", "o0"}, {"p1", "p0"}, {"y1,0", "y1,1"}, {"y2,0", "y2,-2"}, {"y3,0", "y3,3"}
        };
        for (String[] texts : thereAndBack) {
            due(read(x, texts[0]), 1);
            due(x.alike(), 0);
            due(read(x, texts[1]), texts[1].split(";").length);
            due(x.alike(), 1);
        }
    }

    // ---- part 3: acts

    /** The answers of lifts, lowers, tells with x for each ROUNDING, as their bodies say by hand. */
    private static int lifts(int rounding, int x) {
        return rounding == 2 ? -(x + 2) : rounding == 3 ? -(x + 3) * 3 : x + rounding;
    }

    private static int lowers(int rounding, int x) {
        int down = lifts(rounding, x) * 2;
        return rounding == 1 ? down ^ 5 : rounding == 4 ? (down ^ 5) + lifts(4, 2) : down;
    }

    private static int tells(int rounding, int x) {
        return lowers(rounding, rounding == 3 ? x + 1 : x) - rounding;
    }

    @Says("ACTS of a ROUNDING (0 .. 4) with x (an int that wraps): 0 lifts, 1 lowers, 2 tells; i its number.")
    static void p40_acts() {
        int[] numbers = {0, 1, -1, 7, -100, Integer.MAX_VALUE, Integer.MIN_VALUE, Integer.MAX_VALUE - 2, 1 << 30, -(1 << 30) - 1};
        for (int rounding = 0; rounding < 5; rounding++) {
            CutOffFilter x = new CutOffFilter();
            for (int v : numbers) {
                due(x.act(rounding, 0, v), lifts(rounding, v));
                due(x.act(rounding, 1, v), lowers(rounding, v));
                due(x.act(rounding, 2, v), tells(rounding, v));
            }
        }
        due(new CutOffFilter().act(-1, 0, 5), 0);
        due(new CutOffFilter().act(5, 0, 5), 0);
        due(new CutOffFilter().act(1, -1, 5), 0);
        due(new CutOffFilter().act(1, 3, 5), 0);
        // the object's own ROUNDING plays no part
        due(by("r3").act(0, 0, 5), 5);
    }

    private static void acts(int rounding, int act, int x, int answer, int... bodies) {
        CutOffFilter by = new CutOffFilter();
        due(by.act(rounding, act, x), answer);
        trace(by, bodies);
    }

    @Says("BODIES: DOWN: 10 lifts: x + i.")
    static void p40_body10() {
        acts(0, 0, 7, 7, 10);
        acts(1, 0, 7, 8, 10);
        acts(4, 0, 7, 11, 10);
        acts(4, 0, Integer.MAX_VALUE, Integer.MIN_VALUE + 3, 10);
    }

    @Says("11 lowers: lifts(x) * 2.")
    static void p40_body11() {
        acts(0, 1, 7, 14, 11, 10);
        acts(2, 1, 7, -18, 11, 30, 10);
        acts(3, 1, 7, -60, 11, 41, 30, 10);
        acts(0, 1, 1 << 30, Integer.MIN_VALUE, 11, 10);
    }

    @Says("12 tells: lowers(x) - i.")
    static void p40_body12() {
        acts(0, 2, 7, 14, 12, 11, 10);
        acts(1, 2, 7, (16 ^ 5) - 1, 12, 20, 11, 10);
        acts(2, 2, 7, -20, 12, 11, 30, 10);
        acts(4, 2, 7, (22 ^ 5) + 6 - 4, 12, 50, 20, 11, 10, 10);
    }

    @Says("CUT: 20 lowers: super.lowers(x) ^ 5.")
    static void p40_body20() {
        acts(1, 1, 7, 21, 20, 11, 10);
        acts(1, 1, -8, -14 ^ 5, 20, 11, 10);
    }

    @Says("NEAR: 30 lifts: -super.lifts(x).")
    static void p40_body30() {
        acts(2, 0, 7, -9, 30, 10);
        acts(2, 0, Integer.MIN_VALUE - 2, Integer.MIN_VALUE, 30, 10);
    }

    @Says("EVEN: 40 tells: super.tells(x + 1).")
    static void p40_body40() {
        acts(3, 2, 7, -69, 40, 12, 11, 41, 30, 10);
        acts(3, 2, Integer.MAX_VALUE, (Integer.MIN_VALUE + 3) * -6 - 3, 40, 12, 11, 41, 30, 10);
    }

    @Says("41 lifts: super.lifts(x) * 3.")
    static void p40_body41() {
        acts(3, 0, 7, -30, 41, 30, 10);
        acts(3, 0, 1 << 30, -((1 << 30) + 3) * 3, 41, 30, 10);
    }

    @Says("AWAY: 50 lowers: super.lowers(x) + lifts(2).")
    static void p40_body50() {
        acts(4, 1, 3, 17, 50, 20, 11, 10, 10);
        acts(4, 1, -4, 5 + 6, 50, 20, 11, 10, 10);
    }

    @Says("lifts(..) and so on: the body of its own kind, or of the next kind above that has one;")
    static void p40_itsOwnBodyOrTheNextAbove() {
        // AWAY has no tells and no lifts, nor has CUT: DOWN's; its lowers, called from DOWN's tells, is its own
        acts(4, 0, 1, 5, 10);
        acts(4, 2, 1, (10 ^ 5) + 6 - 4, 12, 50, 20, 11, 10, 10);
        // EVEN has no lowers, nor has NEAR: DOWN's; that one's lifts is EVEN's own
        acts(3, 1, 1, -24, 11, 41, 30, 10);
        // NEAR has no tells: DOWN's, and the lifts behind it is NEAR's own
        acts(2, 2, 1, -8, 12, 11, 30, 10);
        acts(1, 0, 1, 2, 10);
    }

    @Says("super: from the kind above the body's on;")
    static void p40_super() {
        // from AWAY's lowers CUT's, from that DOWN's
        acts(4, 1, 0, (8 ^ 5) + 6, 50, 20, 11, 10, 10);
        // from EVEN's tells NEAR's, which has none: DOWN's; from its lifts NEAR's, from that DOWN's
        acts(3, 2, 0, -27, 40, 12, 11, 41, 30, 10);
    }

    @Says("what stands in a body is done from the left on.")
    static void p41_fromTheLeftOn() {
        // super.lowers(x) with all that runs in it is ahead of lifts(2), the last 10
        acts(4, 1, 9, (26 ^ 5) + 6, 50, 20, 11, 10, 10);
    }

    @Says("THE TRACE: numbers of the bodies that ran in the latest act() that was not BAD, as they began;")
    static void p41_theTrace() {
        CutOffFilter x = new CutOffFilter();
        trace(x);
        due(x.act(5, 0, 1), 0);
        trace(x);
        x.act(3, 2, 7);
        trace(x, 40, 12, 11, 41, 30, 10);
        due(x.act(0, 3, 1), 0);
        due(x.act(-1, 0, 1), 0);
        trace(x, 40, 12, 11, 41, 30, 10);
        x.act(1, 1, 7);
        trace(x, 20, 11, 10);
    }

    @Says("the first 24 are kept.")
    static void p41_theFirst24() {
        // no act runs more than six bodies, so that all are kept, and none of 24 on is ever there
        CutOffFilter x = new CutOffFilter();
        for (int round = 0; round < 5; round++) {
            x.act(4, 2, round);
            trace(x, 12, 50, 20, 11, 10, 10);
            due(x.trace(23), NOT);
            due(x.trace(24), NOT);
            due(x.trace(-1), NOT);
        }
    }

    // ---- part 3: refusals

    @Says("ANSWERS that are refusals (nothing changes but where it is told), of several the first as the call's words name them:")
    static void p12_whatIsRefusedChangesNothing() {
        String text = "b3;c1,9;c2,-5;s2;r2;o4;i3;y1,2;y2,-3";
        CutOffFilter refused = by(text);
        CutOffFilter other = by(text);
        fill(refused, 0, 0, 1, -2);
        fill(other, 0, 0, 1, -2);
        due(refused.set(0, 0, 4), NO);
        due(refused.set(2, 0, 4), NO);
        due(refused.set(1, 0, 6), NO);
        due(refused.past(1, 4), NO);
        due(refused.step(100), NO);
        due(refused.go(4), BAD);
        due(refused.go(1), MISSING);
        due(refused.measure(1, 1), VOID);
        due(refused.feed(127), BAD);
        due(refused.row(0, 0, -1), TOO_SMALL);
        due(refused.row(0, 0, 41), BAD);
        due(refused.put(0, 2, 1), OUTSIDE);
        due(refused.film(0, 0, 1), MISSING);
        due(refused.film(0, 3, 0), BAD);
        due(refused.copy(0, 0, 0, 1, 2), OUTSIDE);
        due(refused.act(5, 0, 0), 0);
        due(refused.redo(), STATE);
        due(refused.back(), STATE);
        sameAs(refused, other);
        // of several the first
        due(refused.run(4, 3), BAD);
        due(refused.run(1, 3), BAD);
        due(refused.output(1, -1), MISSED);
        due(refused.row(0, 3, -1), BAD);
        due(refused.put(1, -1, 0), MISSING);
        due(refused.copy(1, -1, 0, 0, 1), MISSING);
        due(refused.row(2, 1, 1), 1);
        due(refused.copy(2, -1, 0, 0, 1), UNLIKE);
        due(refused.cause(3), NOTHING);
    }

    @Says("BAD (-1): no such one, a number out of its range.")
    static void p48_bad() {
        due(CutOffFilter.BAD, -1);
        CutOffFilter x = new CutOffFilter();
        due(x.count(-1), BAD);
        due(x.count(5), BAD);
        due(x.go(-1), BAD);
        due(x.next(256, 0), BAD);
        due(x.cycles(100, 0), BAD);
        due(x.isUnder(0, 5), BAD);
    }

    @Says("NOT (-2): there is none.")
    static void p23_not() {
        due(CutOffFilter.NOT, -2);
        CutOffFilter x = new CutOffFilter();
        due(x.cycle(0, 1, 0), NOT);
        due(x.onCycle(0, -1, 0), NOT);
        due(x.trace(0), NOT);
    }

    @Says("FULL (-3).")
    static void p32_full() {
        due(CutOffFilter.FULL, -3);
        CutOffFilter x = new CutOffFilter();
        for (int i = 0; i < 80; i++) {
            due(x.feed('i'), i + 1);
        }
        due(x.feed('i'), FULL);
    }

    @Says("STATE (-5): as told.")
    static void p43_state() {
        due(CutOffFilter.STATE, -5);
        CutOffFilter x = by("o4;y1,1");
        due(x.undo(), 0);
        due(x.undo(), STATE);
        due(x.redo(), 0);
        due(x.redo(), STATE);
        due(x.alike(), STATE);
        due(x.back(), STATE);
        due(x.next(0, 9), STATE);
        due(x.leads(0, 9, 0), STATE);
    }

    @Says("Where an answer may be below 0 they are 1000 less: NO (-1001), NONE (-1002), HALTED (-1005).")
    static void p06_refusalsWhereAnAnswerMayBeBelow0() {
        due(CutOffFilter.NO, CutOffFilter.BAD - 1000);
        due(CutOffFilter.NONE, CutOffFilter.NOT - 1000);
        due(CutOffFilter.HALTED, CutOffFilter.STATE - 1000);
        CutOffFilter x = by("o4");
        due(x.step(-8), -8);
        due(x.step(100), NO);
        due(x.step(-9), HALTED);
        due(x.cause(3), NOTHING);
        due(new CutOffFilter().cause(0), NONE);
        due(x.set(0, 0, 3), HALTED);
    }

    @Says("VOID: the least long; ENDED: 1 more than that.")
    static void p16_voidAndEnded() {
        due(CutOffFilter.VOID, Long.MIN_VALUE);
        due(CutOffFilter.ENDED, Long.MIN_VALUE + 1);
        CutOffFilter x = by("o4");
        due(x.measure(0, 1), VOID);
        fill(x, 0, 0, 8);
        due(x.measure(0, 1), ENDED);
        // a ROW of longs can hold both: put() and get() tell them as any number
        fill(x, 1, 2, VOID, ENDED);
        due(x.get(1, 0), VOID);
        due(x.get(1, 1), ENDED);
    }

    // ---- so that nothing is read two ways

    @Says("SO THAT NOTHING IS READ TWO WAYS. INPUTS are -99 .. 99 wherever they are told but in ROWS.")
    static void p20_inputs() {
        for (int side = -1; side <= 1; side += 2) {
            CutOffFilter x = new CutOffFilter();
            int in = 99 * side;
            int out = 100 * side;
            holds(x.would(in, 0) != NOTHING && x.next(0, in) >= 0 && x.leads(0, in, 0) >= 0 && x.cycles(in, 0) > 0);
            holds(x.cycle(in, 0, 0) >= 0 && x.onCycle(in, 0, 0) >= 0 && x.quietest(in, 0) >= 0 && x.tamed(in, 99) > 0);
            holds(x.lost(in, 0) != VOID && x.step(in) != NO);
            due(x.would(out, 0), NOTHING);
            due(x.next(0, out), BAD);
            due(x.leads(0, out, 0), BAD);
            due(x.cycles(out, 0), BAD);
            due(x.cycle(out, 0, 0), BAD);
            due(x.onCycle(out, 0, 0), BAD);
            due(x.quietest(out, 0), BAD);
            due(x.tamed(out, 99), NO);
            due(x.lost(out, 0), VOID);
            due(x.step(out), NO);
            fill(x, 0, 2, out, 100000000000L * side, in);
            for (int k = 0; k < 3; k++) {
                due(x.output(0, k), 3 * side);
            }
        }
    }

    @Says("FITS, QUIETEST, TAMED try what they try in place of what there is, all else as it is (THE PAST, too).")
    static void p30_whatIsTriedTakesThePlaceOfWhatThereIs() {
        // ROUNDING 4 plays no part where others are tried: 7 by 4 is 1 by DOWN and CUT alone
        CutOffFilter x = by("s2;r4;y1,1;c2,4");
        fill(x, 0, 0, 7, 4);
        fill(x, 1, 0, 1, 2);
        due(x.fits(0, 1, 0), 3);
        due(x.of(5, 0), 4);
        // THE PAST as it is: WORD 1 comes in by COEFFICIENT 2 in the second STEP
        due(x.past(1, 2), 1);
        due(x.fits(0, 1, 0), 0);
        due(x.past(1, 1), 2);
        due(x.fits(0, 1, 0), 3);
        // COEFFICIENT 1 is tried in place of 50, COEFFICIENT 2 stays
        x = by("n1;o4;c1,50");
        due(x.tamed(0, 8), 1);
        due(x.of(2, 1), 50);
        // 7 by 8 goes to 0 by DOWN and CUT, from below by CUT alone
        x = by("n1;c1,7;s3;r0");
        due(x.quietest(0, 0), 1);
        due(x.quietest(0, 1), 0);
        due(x.of(5, 0), 0);
    }

    @Says("Of a PAST on a CYCLE TAIL is 0.")
    static void p21_tailOnACycle() {
        for (String text : NARROW) {
            CutOffFilter x = by(text);
            for (int k = 0; k < x.cycles(1, 0) && k < 10; k++) {
                for (int i = 0; i < x.cycle(1, k, 1) && i < 10; i++) {
                    due(x.leads(x.onCycle(1, k, i), 1, 0), 0);
                }
            }
        }
        // y = 1: from (1, 1) it goes round by itself, from (1, other) it takes one STEP, from all others two
        CutOffFilter x = new CutOffFilter();
        due(x.leads(9 * 16 + 9, 1, 0), 0);
        due(x.leads(9 * 16 + 8, 1, 0), 1);
        due(x.leads(8 * 16 + 9, 1, 0), 2);
    }

    @Says("By step(), go() THE PAST becomes another one;")
    static void p12_byStepAndGoThePastBecomesAnother() {
        CutOffFilter x = new CutOffFilter();
        fill(x, 0, 0, 4, -5);
        due(x.step(3), 3);
        words(x, 3, 0);
        due(x.go(0), 2);
        words(x, -5, 4);
        due(x.would(6, 0), 6);
        due(x.measure(0, 1), 41);
        words(x, -5, 4);
    }

    @Says("go() is the RUN done truly.")
    static void p12_goIsTheRunDoneTruly() {
        for (int overflow = 0; overflow < 5; overflow++) {
            CutOffFilter x = running(overflow);
            int length = x.run(0, 0);
            int last = x.output(0, length - 1);
            int before = x.output(0, length - 2);
            due(x.go(0), length);
            words(x, last, before);
            due(x.count(4), length);
            CutOffFilter steps = running(overflow);
            for (int k = 0; k < length; k++) {
                holds(steps.step(asInput(TOLD[k])) != HALTED);
            }
            due(x.code(), steps.code());
            if (overflow == 4) {
                int v = steps.would(asInput(TOLD[length]), 2);
                causes(x, length, 0, v);
            }
        }
    }

    @Says("THE CAUSES stay till another call is ended so.")
    static void p17_theCausesStay() {
        CutOffFilter x = by("o4");
        fill(x, 0, 0, 1, 2, 9);
        due(x.go(0), 2);
        causes(x, 2, 0, 9);
        due(x.step(3), 3);
        due(x.would(99, 0), HALTED);
        due(x.run(0, 2), 1);
        due(x.step(100), NO);
        due(x.image(), 11 * 16 + 10);
        due(x.set(6, 0, 0), 4);
        due(x.measure(0, 1), 1 + 4 + 49);
        due(x.go(0), 3);
        due(x.undo(), 1);
        due(x.back(), 11 * 16 + 10);
        causes(x, 2, 0, 9);
        due(x.step(-9), HALTED);
        causes(x, 0, 0, -9);
    }

    @Says("THE TAPE is empty behind each call that reads it, by a FAULT and by all that is refused behind its text, too.")
    static void p34_theTapeIsEmptyBehindEachRead() {
        String[] texts = {"", "z", "i1", "i1;", "s7", "i1;o4;x99", "i1;i1;i999", "n3"};
        int[] due = {-100, -100, 1, -103, -200, -202, -109, -200};
        CutOffFilter x = new CutOffFilter();
        for (int i = 0; i < texts.length; i++) {
            due(read(x, texts[i]), due[i]);
            due(x.count(2), 0);
            due(x.wipe(), 0);
            due(x.read(), -100);
        }
    }

    // ---- what the interface says ahead of its groups of calls

    private static void heads(String head, String... calls) throws Exception {
        String source = Files.readString(Path.of("src/main/java/CutOffFilter.java"));
        int from = source.indexOf("// ---- " + head + "\n");
        holds(from >= 0);
        int to = from < 0 ? -1 : source.indexOf("// ---- ", from + 1);
        List<String> named = new ArrayList<>();
        Matcher method = Pattern.compile("public (?:int|long) (\\w+)\\(").matcher(from < 0 || to < 0 ? "" : source.substring(from, to));
        while (method.find()) {
            named.add(method.group(1));
        }
        holds(named.equals(Arrays.asList(calls)));
    }

    @Says("Ahead of the calls `set`, `of`, `past`, `word` the interface says: ---- numbers that are set.")
    static void p02_headOfNumbers() throws Exception {
        heads("numbers that are set", "set", "of", "past", "word");
    }

    @Says("Ahead of the calls `step`, `would`, `rounded`, `bounded` the interface says: ---- steps.")
    static void p06_headOfSteps() throws Exception {
        heads("steps", "step", "would", "rounded", "bounded");
    }

    @Says("Ahead of the calls `output`, `run`, `go`, `noise`, `levels`, `level`, `measure`, `cause` the interface says: ---- runs.")
    static void p10_headOfRuns() throws Exception {
        heads("runs", "output", "run", "go", "noise", "levels", "level", "measure", "cause");
    }

    @Says("Ahead of the calls `starts`, `code`, `next`, `leads`, `cycles`, `cycle`, `onCycle` the interface says: ---- all starts.")
    static void p18_headOfAllStarts() throws Exception {
        heads("all starts", "starts", "code", "next", "leads", "cycles", "cycle", "onCycle");
    }

    @Says("Ahead of the calls `reach`, `scale`, `quietest`, `tamed`, `lost` the interface says: ---- scales, kinds.")
    static void p25_headOfScales() throws Exception {
        heads("scales, kinds", "reach", "scale", "quietest", "tamed", "lost");
    }

    @Says("Ahead of the calls `fits`, `judge` the interface says: ---- told outputs.")
    static void p30_headOfToldOutputs() throws Exception {
        heads("told outputs", "fits", "judge");
    }

    @Says("Ahead of the calls `feed`, `wipe`, `read` the interface says: ---- the tape.")
    static void p32_headOfTheTape() throws Exception {
        heads("the tape", "feed", "wipe", "read");
    }

    @Says("Ahead of the calls `row`, `put`, `get`, `film`, `copy` the interface says: ---- rows.")
    static void p35_headOfRows() throws Exception {
        heads("rows", "row", "put", "get", "film", "copy");
    }

    @Says("Ahead of the calls `act`, `trace`, `isUnder`, `undo`, `redo`, `image`, `alike`, `back`, `count` the interface says: ---- acts, changes, the image.")
    static void p40_headOfActs() throws Exception {
        heads("acts, changes, the image", "act", "trace", "isUnder", "undo", "redo", "image", "alike", "back", "count");
    }

    // ---- that no sentence is left out

    private static String terms() throws Exception {
        String document = Files.readString(Path.of("../shared/DOC.md"));
        int from = document.indexOf("## Terms");
        int to = document.indexOf("## Promise 1:");
        if (from < 0 || to < from) {
            return "no Terms";
        }
        return document.substring(from + "## Terms".length(), to).replace("```text", " ").replace("```", " ").replaceAll("=+", " ").replaceAll("\\s+", " ");
    }

    private static void lookForSentencesLeftOut(Iterable<Method> tests) throws Exception {
        List<String> quotes = new ArrayList<>();
        for (Method method : tests) {
            quotes.add(method.getAnnotation(Says.class).value());
        }
        // the longest first, so that a short one is not found within a long one
        quotes.sort(Comparator.comparingInt(String::length).reversed());
        String left = terms();
        for (String quote : quotes) {
            int at = left.indexOf(quote);
            if (at < 0) {
                wrong++;
                System.out.println("Terms do not say: " + quote);
            } else {
                left = left.substring(0, at) + "|" + left.substring(at + quote.length());
            }
        }
        for (String sentence : left.split("\\|")) {
            if (!sentence.isBlank()) {
                wrong++;
                System.out.println("no test quotes: " + sentence);
            }
        }
    }

    public static void main(String[] arguments) throws Exception {
        TreeMap<String, Method> tests = new TreeMap<>();
        Set<String> faulty = new TreeSet<>();
        for (Method method : TermsTests.class.getDeclaredMethods()) {
            if (method.isAnnotationPresent(Says.class)) {
                tests.put(method.getName(), method);
                if (!method.getName().matches("p(0[1-9]|[1-3]\\d|4[0-8])_\\w+")) {
                    faulty.add(method.getName());
                }
            }
        }
        for (Method method : tests.values()) {
            test = method.getName();
            number = 0;
            method.invoke(null);
        }
        lookForSentencesLeftOut(tests.values());
        wrong += faulty.size();
        System.out.println(tests.size() + " sentences of Terms: " + (wrong == 0 ? "all answers are as due" : wrong + " are not as due " + faulty));
        if (wrong != 0) {
            System.exit(1);
        }
    }
}
