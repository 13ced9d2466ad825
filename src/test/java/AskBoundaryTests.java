/** The boundary cases of what can be asked of the borough, of what was said, and of images (promises 23 to 46). */
public final class AskBoundaryTests {
    private static final int NONE = Cases.NONE;

    public static void main(String[] args) {
        errandsEmpty();
        errandsNumbers();
        errandsTip();
        errandsOrder();
        where();
        paidEmpty();
        paidEdges();
        paidOrder();
        standOthers();
        cat();
        catOthers();
        quarrel();
        orders();
        order();
        share();
        shareTerms();
        slips();
        slipsOthers();
        halves();
        level();
        levelEdges();
        swap();
        send();
        said();
        saidFull();
        whose();
        free();
        lone();
        heaviest();
        travelled();
        ledger();
        image();
        back();
        backKeeps();
        about();
        aboutFull();
        Cases.finish(23, 24, 25, 26, 27, 28, 29, 30, 31, 32, 33, 34, 35, 36, 37, 38, 39, 40, 41, 42, 43, 44, 45, 46);
    }

    private static void test(int promise, String sentence, Cases.Case one) {
        Cases.test(promise, sentence, one);
    }

    private static void due(String call, long got, long want) {
        Cases.due(call, got, want);
    }

    private static void due(String call, boolean got, boolean want) {
        Cases.due(call, got, want);
    }

    private static void errands(BoroughBeam b, boolean pairs, int... want) {
        due("errands(" + pairs + ", NONE)", b.errands(pairs, NONE), want.length);
        for (int i = 0; i < want.length; i++) {
            due("errands(" + pairs + ", " + i + ")", b.errands(pairs, i), want[i]);
        }
        due("errands(" + pairs + ", " + want.length + ")", b.errands(pairs, want.length), -2);
    }

    private static void noErrands(BoroughBeam b, boolean pairs) {
        due("errands(" + pairs + ", NONE)", b.errands(pairs, NONE), -2);
        due("errands(" + pairs + ", 0)", b.errands(pairs, 0), -2);
    }

    private static void errandsEmpty() {
        test(23, "nobody: it is so", b -> {
            errands(b, false);
            errands(b, true);
        });
        test(23, "nobody has a goal: it is so", b -> {
            Cases.people(b, 1, 0, 9, 8);
            errands(b, false);
            errands(b, true);
        });
        test(23, "all are in their goals: 0", b -> {
            Cases.people(b, 1, 0, 9, 8);
            b.goal(0, 0);
            b.goal(1, 8);
            errands(b, false);
            errands(b, true);
        });
        test(23, "in its goal, though it tips too far now", b -> {
            Cases.people(b, 9, 8);
            b.goal(0, 8);
            errands(b, false);
        });
        test(23, "a goal taken back is none", b -> {
            Cases.people(b, 9, 4);
            b.goal(0, 8);
            noErrands(b, false);
            b.goal(0, NONE);
            errands(b, false);
        });
    }

    private static void errandsNumbers() {
        test(23, "i -2", b -> {
            Cases.people(b, 1, 4);
            b.goal(0, 5);
            due("errands(false, -2)", b.errands(false, -2), -2);
            due("errands(true, -2)", b.errands(true, -2), -2);
        });
        test(23, "i far off", b -> {
            Cases.people(b, 1, 4);
            b.goal(0, 5);
            due("errands(false, least)", b.errands(false, Cases.LEAST), -2);
            due("errands(false, most)", b.errands(false, Cases.MOST), -2);
            due("errands(true, most)", b.errands(true, Cases.MOST), -2);
        });
        test(23, "from one end to the other: 8", b -> {
            Cases.people(b, 1, 0);
            b.goal(0, 8);
            errands(b, false, 1, 1, 1, 1, 1, 1, 1, 1);
        });
        test(23, "and back: 8 to the left", b -> {
            Cases.people(b, 1, 8);
            b.goal(0, 0);
            errands(b, true, 0, 0, 0, 0, 0, 0, 0, 0);
        });
        test(23, "the lowest going of one: person 0 to the left, 0", b -> {
            Cases.people(b, 1, 4);
            b.goal(0, 3);
            errands(b, false, 0);
        });
        test(23, "the highest going of one: person 3 to the right, 7", b -> {
            Cases.people(b, 1, 4, 1, 4, 1, 4, 1, 4);
            b.goal(3, 5);
            errands(b, false, 7);
        });
        test(23, "the lowest pair: 0 and 1 to the left, 12", b -> {
            Cases.people(b, 1, 4, 1, 4);
            b.goal(0, 3);
            b.goal(1, 3);
            errands(b, true, 12);
            errands(b, false, 0, 2);
        });
        test(23, "the highest pair: 2 and 3 to the right, 57", b -> {
            Cases.people(b, 1, 4, 1, 4, 1, 4, 1, 4);
            b.goal(2, 5);
            b.goal(3, 5);
            errands(b, true, 57);
        });
        test(23, "nothing is done by it", b -> {
            Cases.people(b, 1, 4, 1, 4);
            b.goal(0, 3);
            b.goal(1, 8);
            b.errands(true, NONE);
            due("of(0, 1)", b.of(0, 1), 4);
            due("of(1, 1)", b.of(1, 1), 4);
            due("about(4)", b.about(4), 0);
        });
    }

    private static void errandsTip() {
        test(23, "to a tip of 9", b -> {
            Cases.people(b, 9, 3);
            b.goal(0, 5);
            errands(b, false, 1, 1);
        });
        test(23, "to a tip of 10: none", b -> {
            Cases.people(b, 5, 4);
            b.goal(0, 6);
            noErrands(b, false);
            noErrands(b, true);
        });
        test(23, "to a tip of -10: none", b -> {
            Cases.people(b, 5, 4);
            b.goal(0, 2);
            noErrands(b, false);
        });
        test(23, "from too far, to 9 at once", b -> {
            Cases.people(b, 3, 8);
            b.goal(0, 7);
            errands(b, false, 0);
        });
        test(23, "from too far, where one going isn't enough: none", b -> {
            Cases.people(b, 5, 8);
            b.goal(0, 4);
            noErrands(b, false);
        });
        test(23, "another one without a goal goes out of the way", b -> {
            Cases.people(b, 9, 5, 9, 4);
            b.goal(0, 6);
            errands(b, false, 2, 1);
        });
        test(23, "as pairs alone: tips 0", b -> {
            Cases.rule(b, "tips 0;");
            Cases.people(b, 2, 4, 2, 4);
            b.goal(0, 6);
            noErrands(b, false);
            errands(b, true, 20, 20);
        });
        test(23, "the hour as now: a law of the hour doesn't change on the way", b -> {
            Cases.rule(b, "tips hour;");
            Cases.people(b, 1, 4);
            b.goal(0, 5);
            noErrands(b, false);
        });
        test(23, "the snow as now", b -> {
            b.hour(1);
            Cases.people(b, 7, 4);
            b.goal(0, 5);
            noErrands(b, false);
            b.goal(0, 3);
            errands(b, false, 0);
        });
        test(23, "the law as it is then, on the way", b -> {
            Cases.rule(b, "tips if load 5 > 0 then 0 else 9 end;");
            Cases.people(b, 1, 4);
            b.goal(0, 6);
            noErrands(b, false);
        });
    }

    private static void errandsOrder() {
        test(23, "of like ones the lowest first", b -> {
            Cases.people(b, 1, 4, 1, 4);
            b.goal(0, 5);
            b.goal(1, 3);
            errands(b, false, 1, 2);
        });
        test(23, "of like ones the lowest first, then the next", b -> {
            Cases.people(b, 1, 4, 1, 4);
            b.goal(0, 6);
            b.goal(1, 2);
            errands(b, false, 1, 1, 2, 2);
        });
        test(23, "one alone goes ahead of a pair of as many goings", b -> {
            Cases.people(b, 1, 4, 1, 4);
            b.goal(0, 6);
            b.goal(1, 5);
            errands(b, true, 1, 10 + 8 + 2 + 1);
        });
        test(23, "who has no goal goes with nobody where one alone will do", b -> {
            Cases.people(b, 1, 4, 1, 4);
            b.goal(1, 5);
            errands(b, true, 3);
        });
        test(23, "the lowest partner, to the left", b -> {
            Cases.rule(b, "tips if load 4 > 1 then 0 else 99 end;");
            Cases.people(b, 1, 4, 1, 4, 1, 4);
            b.goal(2, 5);
            // At least two must leave place 4 at once, and the tip be 0 as long as two are there: 2 and one other.
            // With 0 to the left: 0 and 2, 10 + 4 + 1 = 15.
            errands(b, true, 15);
        });
    }

    private static void where() {
        test(24, "nobody: as now, 1", b -> {
            due("where(false)", b.where(false), 1);
            due("where(true)", b.where(true), 1);
        });
        test(24, "one who can't go: 1", b -> {
            Cases.people(b, 9, 8);
            due("where(false)", b.where(false), 1);
            due("where(true)", b.where(true), 1);
        });
        test(24, "one who can go everywhere: 9", b -> {
            Cases.people(b, 1, 0);
            due("where(false)", b.where(false), 9);
        });
        test(24, "too far now, as now too: 8", b -> {
            Cases.people(b, 3, 8);
            due("where(false)", b.where(false), 8);
        });
        test(24, "to 9 and -9, no farther: 7", b -> {
            Cases.people(b, 3, 4);
            due("where(false)", b.where(false), 7);
        });
        test(24, "tips 0, alone and as pairs", b -> {
            Cases.rule(b, "tips 0;");
            Cases.people(b, 2, 4, 2, 4);
            due("where(false)", b.where(false), 1);
            due("where(true)", b.where(true), 9);
        });
        test(24, "all of four: 6561", b -> {
            Cases.rule(b, "tips 99;");
            Cases.people(b, 1, 0, 1, 8, 1, 4, 1, 4);
            due("where(false)", b.where(false), 6561);
            due("where(true)", b.where(true), 6561);
        });
        test(24, "of fewer people than there were", b -> {
            Cases.people(b, 1, 4);
            b.image();
            Cases.people(b, 1, 4, 1, 4, 1, 4);
            due("where(true) of four is more", b.where(true) > 9, true);
            b.back();
            due("where(true)", b.where(true), 9);
            due("where(false)", b.where(false), 9);
        });
        test(24, "nothing is done by it", b -> {
            Cases.people(b, 1, 0, 1, 8);
            b.where(true);
            due("of(0, 1)", b.of(0, 1), 0);
            due("of(1, 1)", b.of(1, 1), 8);
            due("about(4)", b.about(4), 0);
        });
    }

    private static void paid(BoroughBeam b, int wage, int set, int... stand) {
        due("paid(true)", b.paid(true), wage);
        due("paid(false)", b.paid(false), set);
        for (int hand = 0; hand < stand.length; hand++) {
            due("stand(" + hand + ")", b.stand(hand), stand[hand]);
        }
    }

    private static void paidEmpty() {
        test(25, "no hands, level: none need", b -> paid(b, 0, 0));
        test(25, "no hands, not level: no way", b -> {
            Cases.people(b, 1, 5);
            paid(b, NONE, NONE, NONE);
        });
        test(25, "hands, level: none need", b -> {
            b.hand(1, 0);
            b.hand(2, 5);
            paid(b, 0, 0, NONE, NONE);
        });
        test(25, "a hand that can't level it: no way", b -> {
            Cases.people(b, 1, 5);
            b.hand(2, 0);
            paid(b, NONE, NONE, NONE);
        });
        test(25, "snow is levelled, too", b -> {
            b.hour(1);
            b.hand(1, 7);
            paid(b, 7, 1, 1);
        });
    }

    private static void paidEdges() {
        test(25, "36 to the right: a hand of 9 in place 0", b -> {
            Cases.people(b, 9, 8);
            b.hand(9, 99);
            paid(b, 99, 1, 0);
        });
        test(25, "36 to the left: a hand of 9 in place 8", b -> {
            Cases.people(b, 9, 0);
            b.hand(9, 99);
            paid(b, 99, 1, 8);
        });
        test(25, "37: no way for one hand", b -> {
            Cases.people(b, 9, 8, 1, 5);
            b.hand(9, 1);
            paid(b, NONE, NONE, NONE);
        });
        test(25, "all four for 144", b -> {
            Cases.people(b, 9, 8, 9, 8, 9, 8, 9, 8);
            for (int i = 0; i < 4; i++) {
                b.hand(9, 99);
            }
            paid(b, 396, 15, 0, 0, 0, 0);
        });
        test(25, "three are not enough for 144", b -> {
            Cases.people(b, 9, 8, 9, 8, 9, 8, 9, 8);
            for (int i = 0; i < 3; i++) {
                b.hand(9, 99);
            }
            paid(b, NONE, NONE, NONE, NONE, NONE);
        });
        test(25, "for nothing: a wage of 0", b -> {
            Cases.people(b, 1, 5);
            b.hand(1, 0);
            paid(b, 0, 1, 3);
        });
    }

    private static void paidOrder() {
        test(25, "the least wage, though they are more", b -> {
            Cases.people(b, 2, 8);
            b.hand(1, 2);
            b.hand(1, 2);
            b.hand(2, 5);
            paid(b, 4, 3, 0, 0, NONE);
        });
        test(25, "of like wages the fewest", b -> {
            Cases.people(b, 2, 8);
            b.hand(1, 2);
            b.hand(1, 2);
            b.hand(2, 4);
            paid(b, 4, 4, NONE, NONE, 0);
        });
        test(25, "of nothing paid the fewest, too", b -> {
            Cases.people(b, 2, 8);
            b.hand(1, 0);
            b.hand(1, 0);
            b.hand(2, 0);
            paid(b, 0, 4, NONE, NONE, 0);
        });
        test(25, "of as few the lowest set", b -> {
            Cases.people(b, 1, 5);
            b.hand(1, 3);
            b.hand(1, 3);
            paid(b, 3, 1, 3, NONE);
        });
        test(26, "a cheaper set that can't level it doesn't move those who can", b -> {
            // 17 to the right: 4 in place 0 and 1 in place 3; 4 and 2 would be cheaper.
            Cases.people(b, 4, 8, 1, 5);
            b.hand(4, 1);
            b.hand(1, 5);
            b.hand(2, 3);
            paid(b, 6, 3, 0, 3, NONE);
        });
        test(26, "the lowest place of the lowest hand", b -> {
            Cases.people(b, 1, 8, 1, 8);
            b.hand(3, 1);
            b.hand(1, 1);
            // 3a + b = -8: a is -4 and b 4, or a is -3 and b 1, or a is -2 and b -2.
            paid(b, 2, 3, 0, 8);
        });
        test(26, "no farther than the ends for the lowest place", b -> {
            Cases.people(b, 5, 5);
            b.hand(2, 1);
            b.hand(1, 1);
            // 2a + b = -5: a is -4 and b 3.
            paid(b, 2, 3, 0, 7);
        });
    }

    private static void standOthers() {
        test(26, "hand -1", b -> {
            Cases.people(b, 1, 5);
            b.hand(1, 1);
            due("stand(-1)", b.stand(-1), NONE);
        });
        test(26, "the hand behind the last", b -> {
            Cases.people(b, 1, 5);
            b.hand(1, 1);
            due("stand(0)", b.stand(0), 3);
            due("stand(1)", b.stand(1), NONE);
        });
        test(26, "no hands", b -> due("stand(0)", b.stand(0), NONE));
        test(26, "far off", b -> {
            b.hand(1, 1);
            due("stand(least)", b.stand(Cases.LEAST), NONE);
            due("stand(most)", b.stand(Cases.MOST), NONE);
        });
        test(26, "not at all: NONE", b -> {
            Cases.people(b, 1, 5);
            b.hand(9, 9);
            b.hand(1, 1);
            due("stand(0)", b.stand(0), NONE);
            due("stand(1)", b.stand(1), 3);
        });
        test(26, "no way: NONE", b -> {
            Cases.people(b, 9, 8);
            b.hand(1, 1);
            due("stand(0)", b.stand(0), NONE);
        });
        test(26, "level behind being asked before: NONE", b -> {
            Cases.people(b, 1, 5);
            b.hand(1, 1);
            due("stand(0)", b.stand(0), 3);
            b.walk(0, false);
            due("stand(0)", b.stand(0), NONE);
        });
    }

    private static void cat() {
        test(27, "as the tip is: on the stone, 9 weights", b -> {
            due("cat(0, 0)", b.cat(0, 0), 9);
            due("cat(0, 1)", b.cat(0, 1), 14);
        });
        test(27, "36 more: 9 in place 8 alone", b -> {
            due("cat(36, 0)", b.cat(36, 0), 1);
            due("cat(36, 1)", b.cat(36, 1), 98);
        });
        test(27, "36 less: 9 in place 0 alone", b -> {
            due("cat(-36, 0)", b.cat(-36, 0), 1);
            due("cat(-36, 1)", b.cat(-36, 1), 90);
        });
        test(27, "37 more: none", b -> {
            due("cat(37, 0)", b.cat(37, 0), 0);
            due("cat(37, 1)", b.cat(37, 1), NONE);
        });
        test(27, "37 less: none", b -> {
            due("cat(-37, 0)", b.cat(-37, 0), 0);
            due("cat(-37, 1)", b.cat(-37, 1), NONE);
        });
        test(27, "1 less: 1 in place 3", b -> {
            due("cat(-1, 0)", b.cat(-1, 0), 1);
            due("cat(-1, 1)", b.cat(-1, 1), 13);
        });
        test(27, "8 more: the lowest weight, then the place", b -> {
            due("cat(8, 0)", b.cat(8, 0), 3);
            due("cat(8, 1)", b.cat(8, 1), 28);
        });
        test(27, "11 more: none such", b -> due("cat(11, 0)", b.cat(11, 0), 0));
        test(27, "beyond the farthest tip", b -> {
            Cases.people(b, 9, 8, 9, 8, 9, 8, 9, 8);
            due("cat(180, 1)", b.cat(180, 1), 98);
            due("cat(181, 0)", b.cat(181, 0), 0);
        });
    }

    private static void catOthers() {
        test(27, "seen 400", b -> {
            due("cat(400, 0)", b.cat(400, 0), 0);
            due("cat(400, 1)", b.cat(400, 1), NONE);
        });
        test(27, "seen -400", b -> {
            due("cat(-400, 0)", b.cat(-400, 0), 0);
            due("cat(-400, 1)", b.cat(-400, 1), NONE);
        });
        test(27, "seen 401", b -> due("cat(401, 0)", b.cat(401, 0), NONE));
        test(27, "seen -401", b -> due("cat(-401, 0)", b.cat(-401, 0), NONE));
        test(27, "seen far off", b -> {
            due("cat(least, 0)", b.cat(Cases.LEAST, 0), NONE);
            due("cat(most, 0)", b.cat(Cases.MOST, 0), NONE);
        });
        test(27, "what -1", b -> due("cat(0, -1)", b.cat(0, -1), NONE));
        test(27, "what 2", b -> due("cat(0, 2)", b.cat(0, 2), NONE));
        test(27, "what far off", b -> {
            due("cat(0, least)", b.cat(0, Cases.LEAST), NONE);
            due("cat(0, most)", b.cat(0, Cases.MOST), NONE);
        });
    }

    private static void quarrel(BoroughBeam b, int wins, int who) {
        due("quarrel(false)", b.quarrel(false), wins);
        due("quarrel(true)", b.quarrel(true), who);
    }

    private static void quarrel() {
        test(28, "nobody to send: who begins loses", b -> quarrel(b, 0, NONE));
        test(28, "one to send: who begins wins", b -> {
            Cases.people(b, 1, 4);
            quarrel(b, 1, 0);
        });
        test(28, "two to send: who begins loses", b -> {
            Cases.people(b, 1, 4, 1, 4);
            quarrel(b, 0, NONE);
        });
        test(28, "four to send: who begins loses", b -> {
            Cases.people(b, 1, 4, 1, 4, 1, 4, 1, 4);
            quarrel(b, 0, NONE);
        });
        test(28, "9 is left by sending one off: it can be", b -> {
            Cases.people(b, 9, 5, 9, 3);
            quarrel(b, 0, NONE);
            due("orders()", b.orders(), 2);
        });
        test(28, "10 is left by sending one off: it can't be", b -> {
            Cases.people(b, 5, 6, 5, 2);
            quarrel(b, 0, NONE);
            due("orders()", b.orders(), 0);
        });
        test(28, "too far now, but not without it", b -> {
            Cases.people(b, 9, 8);
            quarrel(b, 1, 0);
        });
        test(28, "the snow that is left tips too far", b -> {
            b.hour(1);
            Cases.rule(b, "tips 2;");
            Cases.people(b, 3, 3);
            quarrel(b, 0, NONE);
        });
        test(28, "the snow that is left tips as far as it may", b -> {
            b.hour(1);
            Cases.rule(b, "tips 3;");
            Cases.people(b, 3, 3);
            quarrel(b, 1, 0);
        });
        test(28, "tips as it says now, not with fewer", b -> {
            Cases.rule(b, "tips all;");
            Cases.people(b, 1, 5, 2, 6);
            // 3 now; without 0 it is 4, without 1 it is 1: 1 can go, then 0.
            quarrel(b, 0, NONE);
            due("orders()", b.orders(), 1);
        });
        test(28, "the lowest that could go would lose: the lowest by which it wins", b -> {
            // 5, 5, 18, -18. Behind 0 or 1 the other of them goes, and then nobody can; behind 2 nobody can.
            Cases.people(b, 5, 5, 5, 5, 9, 6, 9, 2);
            quarrel(b, 1, 2);
        });
        test(28, "won, and lost by another law", b -> {
            b.hour(1);
            Cases.people(b, 3, 3);
            quarrel(b, 1, 0);
            Cases.rule(b, "tips 2;");
            quarrel(b, 0, NONE);
            b.by(NONE);
            quarrel(b, 1, 0);
        });
        test(28, "lost, and won by another law", b -> {
            b.hour(1); // 3 by snow, -3 by person 1
            Cases.people(b, 1, 4, 3, 3);
            quarrel(b, 0, NONE);
            Cases.rule(b, "tips 2;");
            quarrel(b, 1, 0);
        });
        test(28, "nobody goes by it", b -> {
            Cases.people(b, 1, 4);
            b.quarrel(true);
            due("about(0)", b.about(0), 1);
        });
    }

    private static void orders() {
        test(29, "nobody: one order", b -> due("orders()", b.orders(), 1));
        test(29, "one", b -> {
            Cases.people(b, 9, 8);
            due("orders()", b.orders(), 1);
        });
        test(29, "four in any order: 24", b -> {
            Cases.people(b, 1, 4, 1, 4, 1, 4, 1, 4);
            due("orders()", b.orders(), 24);
        });
        test(29, "none", b -> {
            Cases.people(b, 9, 8, 9, 0);
            due("orders()", b.orders(), 0);
        });
        test(29, "the first can go, the last can't: none", b -> {
            b.hour(1);
            Cases.rule(b, "tips 2;");
            Cases.people(b, 1, 4, 3, 3);
            due("orders()", b.orders(), 0);
        });
        test(29, "one of six", b -> {
            Cases.people(b, 4, 6, 4, 1, 4, 7);
            due("orders()", b.orders(), 1);
        });
    }

    private static void order() {
        test(30, "nobody", b -> due("order(0)", b.order(0), -2));
        test(30, "the one behind the last", b -> {
            Cases.people(b, 1, 4);
            due("order(0)", b.order(0), 0);
            due("order(1)", b.order(1), -2);
        });
        test(30, "i -1", b -> {
            Cases.people(b, 1, 4);
            due("order(-1)", b.order(-1), -2);
        });
        test(30, "i 3 and 4 of four", b -> {
            Cases.people(b, 1, 4, 1, 4, 1, 4, 1, 4);
            due("order(3)", b.order(3), 3);
            due("order(4)", b.order(4), -2);
        });
        test(30, "far off", b -> {
            Cases.people(b, 1, 4);
            due("order(least)", b.order(Cases.LEAST), -2);
            due("order(most)", b.order(Cases.MOST), -2);
        });
        test(30, "none: -2 for the first, too", b -> {
            Cases.people(b, 9, 8, 9, 0);
            due("order(0)", b.order(0), -2);
            due("order(1)", b.order(1), -2);
        });
        test(30, "none, though the first could go", b -> {
            b.hour(1);
            Cases.rule(b, "tips 2;");
            Cases.people(b, 1, 4, 3, 3);
            due("order(0)", b.order(0), -2);
        });
        test(30, "the lowest that could go first would end it: another one goes", b -> {
            // 8, -12, 12: without 0 nobody can go any more.
            Cases.people(b, 4, 6, 4, 1, 4, 7);
            due("order(0)", b.order(0), 2);
            due("order(1)", b.order(1), 1);
            due("order(2)", b.order(2), 0);
        });
    }

    private static void share(BoroughBeam b, int person, int upper, int lower) {
        due("share(" + person + ", false)", b.share(person, false), upper);
        due("share(" + person + ", true)", b.share(person, true), lower);
    }

    private static void share() {
        test(31, "nobody", b -> share(b, 0, -1000, -1000));
        test(31, "the person behind the last", b -> {
            Cases.people(b, 1, 4);
            share(b, 1, -1000, -1000);
        });
        test(31, "person -1", b -> {
            Cases.people(b, 1, 4);
            share(b, -1, -1000, -1000);
        });
        test(31, "person 4 of four", b -> {
            Cases.people(b, 1, 4, 1, 4, 1, 4, 1, 8);
            share(b, 3, 4, 1);
            share(b, 4, -1000, -1000);
        });
        test(31, "far off", b -> {
            Cases.people(b, 1, 4);
            share(b, Cases.LEAST, -1000, -1000);
            share(b, Cases.MOST, -1000, -1000);
        });
        test(31, "one alone: all of the tip", b -> {
            Cases.people(b, 9, 8);
            share(b, 0, 36, 1);
        });
        test(31, "one alone on the left: how far, not which way", b -> {
            Cases.people(b, 9, 0);
            share(b, 0, 36, 1);
        });
        test(31, "on the stone: 0 of 1", b -> {
            Cases.people(b, 9, 4, 9, 8);
            share(b, 0, 0, 1);
        });
    }

    private static void shareTerms() {
        test(31, "it is nearer: the upper one below 0", b -> {
            b.hour(1);
            Cases.people(b, 3, 3);
            share(b, 0, -3, 1);
        });
        test(31, "over to the other side, as far: 0 of 1", b -> {
            b.hour(1);
            Cases.people(b, 6, 3);
            share(b, 0, 0, 1);
        });
        test(31, "lowest terms below 0: -1 of 3", b -> {
            // 1, -1, -1: 2 * 1 - 1 - 1 - 2 = -2 of 6.
            Cases.people(b, 1, 5, 1, 3, 1, 3);
            share(b, 0, -1, 3);
        });
        test(31, "lowest terms of four: 3, -2, 1, -4", b -> {
            Cases.people(b, 3, 5, 2, 3, 1, 5, 4, 3);
            share(b, 0, -1, 2);
            share(b, 1, 7, 6);
            share(b, 2, -1, 6);
            share(b, 3, 3, 2);
        });
        test(31, "the farthest of four: 36 each", b -> {
            Cases.people(b, 9, 8, 9, 8, 9, 8, 9, 8);
            for (int person = 0; person < 4; person++) {
                share(b, person, 36, 1);
            }
        });
        test(31, "two that level one another: 0 of 1", b -> {
            Cases.people(b, 9, 8, 9, 0);
            share(b, 0, 0, 1);
            share(b, 1, 0, 1);
        });
    }

    private static void slips(BoroughBeam b, int n, int upper, int lower) {
        due("slips(" + n + ", false)", b.slips(n, false), upper);
        due("slips(" + n + ", true)", b.slips(n, true), lower);
    }

    private static void slips() {
        test(32, "1 by tips 9: 10 alone is farther", b -> slips(b, 1, 1, 128));
        test(32, "1 by tips 10: never", b -> {
            Cases.rule(b, "tips 10;");
            slips(b, 1, 0, 1);
        });
        test(32, "9 by tips 9: arms of 1 together are no farther", b -> slips(b, 9, 91, 128));
        test(32, "9 by tips 8: arms of 1 together are", b -> {
            Cases.rule(b, "tips 8;");
            slips(b, 9, 115, 128);
        });
        test(32, "9 by tips 89: 90 alone is farther", b -> {
            Cases.rule(b, "tips 89;");
            slips(b, 9, 1, 128);
        });
        test(32, "9 by tips 90: never", b -> {
            Cases.rule(b, "tips 90;");
            slips(b, 9, 0, 1);
        });
        test(32, "1 at 20 by tips 9: always", b -> {
            Cases.people(b, 5, 8);
            slips(b, 1, 1, 1);
        });
        test(32, "1 at 20 by tips 10: all but two of 512", b -> {
            Cases.rule(b, "tips 10;");
            Cases.people(b, 5, 8);
            slips(b, 1, 255, 256);
        });
        test(32, "1 at -20 by tips 10, likewise", b -> {
            Cases.rule(b, "tips 10;");
            Cases.people(b, 5, 0);
            slips(b, 1, 255, 256);
        });
        test(32, "tips as it says now", b -> {
            Cases.rule(b, "tips 9 - snow * 9;");
            slips(b, 1, 1, 128);
        });
        test(32, "no snow comes by it", b -> {
            b.slips(9, false);
            due("is(4)", b.is(4), 0);
        });
    }

    private static void slipsOthers() {
        test(32, "n 0", b -> slips(b, 0, NONE, NONE));
        test(32, "n -1", b -> slips(b, -1, NONE, NONE));
        test(32, "n 10", b -> slips(b, 10, NONE, NONE));
        test(32, "n far off", b -> {
            slips(b, Cases.LEAST, NONE, NONE);
            slips(b, Cases.MOST, NONE, NONE);
        });
    }

    private static void halves(BoroughBeam b, int more, int first) {
        due("halves(0)", b.halves(0), more);
        due("halves(1)", b.halves(1), first);
    }

    private static void halves() {
        test(33, "what -1", b -> due("halves(-1)", b.halves(-1), NONE));
        test(33, "what 2", b -> due("halves(2)", b.halves(2), NONE));
        test(33, "far off", b -> {
            due("halves(least)", b.halves(Cases.LEAST), NONE);
            due("halves(most)", b.halves(Cases.MOST), NONE);
        });
        test(33, "nobody", b -> halves(b, 0, 0));
        test(33, "one: the lowest set is the empty one", b -> {
            Cases.people(b, 9, 4);
            halves(b, 9, 0);
        });
        test(33, "two: person 0 alone is the lowest", b -> {
            Cases.people(b, 9, 4, 1, 4);
            halves(b, 8, 1);
        });
        test(33, "like ones", b -> {
            Cases.people(b, 9, 0, 9, 8, 9, 4, 9, 4);
            halves(b, 0, 3);
        });
        test(33, "three against one: the set of three is the lower number", b -> {
            Cases.people(b, 1, 4, 2, 4, 3, 4, 9, 4);
            halves(b, 3, 7);
        });
        test(33, "snow is nobody", b -> {
            b.hour(60);
            halves(b, 0, 0);
        });
        test(33, "places don't count", b -> {
            Cases.people(b, 2, 0, 2, 8);
            halves(b, 0, 1);
        });
    }

    private static void level() {
        test(34, "nobody, level: one way, 0", b -> {
            due("level(NONE)", b.level(NONE), 1);
            due("level(0)", b.level(0), 0);
            due("level(1)", b.level(1), -2);
        });
        test(34, "nobody, not level: no way", b -> {
            b.hour(1);
            due("level(NONE)", b.level(NONE), 0);
            due("level(0)", b.level(0), -2);
        });
        test(34, "one: on the stone", b -> {
            Cases.people(b, 9, 8);
            due("level(NONE)", b.level(NONE), 1);
            due("level(0)", b.level(0), 4);
            due("level(1)", b.level(1), -2);
        });
        test(34, "i -2", b -> due("level(-2)", b.level(-2), -2));
        test(34, "far off", b -> {
            due("level(least)", b.level(Cases.LEAST), -2);
            due("level(most)", b.level(Cases.MOST), -2);
        });
    }

    private static void levelEdges() {
        test(34, "two: 9 ways, from 8 to 72", b -> {
            Cases.people(b, 9, 4, 9, 4);
            due("level(NONE)", b.level(NONE), 9);
            due("level(0)", b.level(0), 8);
            due("level(1)", b.level(1), 16);
            due("level(8)", b.level(8), 72);
            due("level(9)", b.level(9), -2);
        });
        test(34, "snow that one of 2 can't level", b -> {
            b.hour(1);
            Cases.people(b, 2, 4);
            due("level(NONE)", b.level(NONE), 0);
            due("level(0)", b.level(0), -2);
        });
        test(34, "snow that one of 3 can level in place 3", b -> {
            b.hour(1);
            Cases.people(b, 3, 4);
            due("level(NONE)", b.level(NONE), 1);
            due("level(0)", b.level(0), 3);
        });
        test(34, "four of unlike weights: 103 ways", b -> {
            Cases.people(b, 1, 4, 2, 4, 4, 4, 8, 4);
            due("level(NONE)", b.level(NONE), 103);
            due("level(0)", b.level(0), 1376);
            due("level(102)", b.level(102), 5184);
            due("level(103)", b.level(103), -2);
        });
        test(34, "however far it may tip on the way, and nothing is done", b -> {
            Cases.rule(b, "tips 0;");
            Cases.people(b, 9, 8);
            due("level(0)", b.level(0), 4);
            due("of(0, 1)", b.of(0, 1), 8);
        });
    }

    private static void swap(BoroughBeam b, int tip, int who) {
        due("swap(false)", b.swap(false), tip);
        due("swap(true)", b.swap(true), who);
    }

    private static void swap() {
        test(35, "nobody: there is none", b -> swap(b, -1000, NONE));
        test(35, "one: there is none", b -> {
            Cases.people(b, 1, 4);
            swap(b, -1000, NONE);
        });
        test(35, "two: 0 and 1 are 1, though it is farther then", b -> {
            Cases.people(b, 2, 8, 4, 2);
            swap(b, 12, 1);
        });
        test(35, "the last two of four: 23", b -> {
            // 4 + 4 + 36 - 4 = 40, by 0 and 3 or 1 and 3, too; 2 and 3: 4 + 4 - 36 + 4 = -24.
            Cases.people(b, 1, 8, 1, 8, 9, 8, 1, 0);
            swap(b, -24, 23);
        });
        test(35, "of like ones the lowest one, then the other one", b -> {
            Cases.people(b, 1, 3, 1, 5, 1, 4, 1, 4);
            swap(b, 0, 1);
        });
        test(35, "of like ones the lowest one: 2 is as near as -2", b -> {
            Cases.people(b, 1, 8, 2, 6, 3, 0);
            swap(b, -2, 1);
        });
        test(35, "nobody goes by it", b -> {
            Cases.people(b, 1, 8, 2, 6);
            b.swap(true);
            due("of(0, 1)", b.of(0, 1), 8);
            due("of(1, 1)", b.of(1, 1), 6);
        });
        test(35, "with snow", b -> {
            b.hour(1);
            Cases.people(b, 1, 4, 3, 4);
            swap(b, 3, 1);
        });
    }

    private static void send() {
        test(36, "weight 0", b -> due("send(0)", b.send(0), NONE));
        test(36, "weight 10", b -> due("send(10)", b.send(10), NONE));
        test(36, "weight -1", b -> due("send(-1)", b.send(-1), NONE));
        test(36, "far off", b -> {
            due("send(least)", b.send(Cases.LEAST), NONE);
            due("send(most)", b.send(Cases.MOST), NONE);
        });
        test(36, "weights 1 and 9 on a level beam", b -> {
            due("send(1)", b.send(1), 4);
            due("send(9)", b.send(9), 4);
        });
        test(36, "as far as there is: place 0", b -> {
            Cases.people(b, 9, 8);
            due("send(1)", b.send(1), 0);
            due("send(9)", b.send(9), 0);
        });
        test(36, "as far as there is: place 8", b -> {
            Cases.people(b, 9, 0);
            due("send(1)", b.send(1), 8);
            due("send(9)", b.send(9), 8);
        });
        test(36, "12 to the right: as far to the left as each weight should be", b -> {
            Cases.people(b, 3, 8);
            int[] want = {0, 0, 0, 1, 2, 2};
            for (int weight = 1; weight <= 6; weight++) {
                due("send(" + weight + ")", b.send(weight), want[weight - 1]);
            }
        });
        test(36, "of like ones the lowest: 4 by 8", b -> {
            Cases.people(b, 4, 5);
            due("send(8)", b.send(8), 3);
        });
        test(36, "of like ones the lowest: -4 by 8", b -> {
            Cases.people(b, 4, 3);
            due("send(8)", b.send(8), 4);
        });
        test(36, "there are 4 already: one more all the same", b -> {
            Cases.people(b, 1, 5, 1, 5, 1, 5, 1, 5);
            due("send(4)", b.send(4), 3);
            due("about(0)", b.about(0), 4);
        });
    }

    private static void said() {
        test(37, "slides -1", b -> {
            Cases.people(b, 1, 4);
            due("said(0, -1)", b.said(0, -1), -2);
        });
        test(37, "slides 4", b -> {
            Cases.people(b, 1, 4);
            due("said(0, 4)", b.said(0, 4), -2);
            due("about(5)", b.about(5), 0);
        });
        test(37, "slides far off", b -> {
            Cases.people(b, 1, 4);
            due("said(0, least)", b.said(0, Cases.LEAST), -2);
            due("said(0, most)", b.said(0, Cases.MOST), -2);
        });
        test(37, "slides 0 and 3", b -> {
            Cases.people(b, 1, 4);
            due("said(0, 0)", b.said(0, 0), 1);
            due("said(0, 3)", b.said(0, 3), 2);
        });
        test(37, "nobody of that number", b -> due("said(0, 1)", b.said(0, 1), -2));
        test(37, "the person behind the last", b -> {
            Cases.people(b, 1, 4);
            due("said(1, 1)", b.said(1, 1), -2);
        });
        test(37, "person -2", b -> {
            Cases.people(b, 1, 4);
            b.said(0, 1);
            due("said(-2, 1)", b.said(-2, 1), -2);
            due("about(5)", b.about(5), 1);
        });
        test(37, "persons far off", b -> {
            Cases.people(b, 1, 4);
            due("said(least, 1)", b.said(Cases.LEAST, 1), -2);
            due("said(most, 1)", b.said(Cases.MOST, 1), -2);
        });
    }

    private static void saidFull() {
        test(37, "8 are not too many", b -> {
            Cases.people(b, 1, 4);
            for (int i = 1; i <= 8; i++) {
                due("said(0, 1)", b.said(0, 1), i);
            }
            due("about(5)", b.about(5), 8);
        });
        test(37, "there are 8", b -> {
            Cases.people(b, 1, 4);
            for (int i = 1; i <= 8; i++) {
                b.said(0, 1);
            }
            due("said(0, 1)", b.said(0, 1), -2);
            due("about(5)", b.about(5), 8);
        });
        test(37, "none any more, of none", b -> due("said(NONE, 0)", b.said(NONE, 0), 0));
        test(37, "none any more, of 8, and one can be said again", b -> {
            Cases.people(b, 1, 4);
            for (int i = 1; i <= 8; i++) {
                b.said(0, 2);
            }
            due("said(NONE, 0)", b.said(NONE, 0), 0);
            due("about(5)", b.about(5), 0);
            due("said(0, 1)", b.said(0, 1), 1);
            Cases.read(b, "slides 1;");
            due("whose(), of the one alone", b.whose(), 1);
        });
    }

    private static void whose() {
        test(38, "no texts", b -> {
            Cases.people(b, 1, 4);
            b.said(0, 1);
            due("whose()", b.whose(), 0);
        });
        test(38, "nothing said: all of them", b -> {
            for (int i = 0; i < 4; i++) {
                Cases.read(b, "slides " + i + ";");
            }
            due("whose()", b.whose(), 15);
        });
        test(38, "slides 0 at least, 3 at most", b -> {
            Cases.people(b, 1, 4);
            Cases.read(b, "slides 0-7;");
            Cases.read(b, "slides 7;");
            b.said(0, 0);
            due("whose()", b.whose(), 1);
            b.said(NONE, 0);
            b.said(0, 3);
            due("whose()", b.whose(), 2);
        });
        test(38, "a text without slides: 1", b -> {
            Cases.people(b, 1, 4);
            Cases.read(b, "tips 3;");
            Cases.read(b, "slides 2;");
            b.said(0, 1);
            due("whose()", b.whose(), 1);
        });
        test(38, "all are so: the last of 8 isn't", b -> {
            Cases.people(b, 1, 4);
            Cases.read(b, "slides 2;");
            for (int i = 0; i < 7; i++) {
                b.said(0, 2);
            }
            due("whose()", b.whose(), 1);
            b.said(0, 1);
            due("whose()", b.whose(), 0);
        });
        test(38, "the fourth text alone", b -> {
            Cases.people(b, 1, 4);
            for (int i = 0; i < 4; i++) {
                Cases.read(b, "slides " + i + ";");
            }
            b.said(0, 3);
            due("whose()", b.whose(), 8);
        });
        test(38, "as now", b -> {
            Cases.people(b, 1, 4);
            Cases.read(b, "slides place - 4;");
            b.said(0, 1);
            due("whose()", b.whose(), 0);
            b.walk(0, true);
            due("whose()", b.whose(), 1);
        });
        test(38, "whether it rules or not", b -> {
            Cases.people(b, 1, 4);
            Cases.rule(b, "slides 3;");
            Cases.read(b, "slides 2;");
            b.said(0, 2);
            due("whose()", b.whose(), 2);
        });
    }

    private static void free() {
        test(39, "nobody", b -> due("free(0)", b.free(0), NONE));
        test(39, "the person behind the last, person -1", b -> {
            Cases.people(b, 1, 4);
            due("free(1)", b.free(1), NONE);
            due("free(-1)", b.free(-1), NONE);
        });
        test(39, "far off", b -> {
            Cases.people(b, 1, 4);
            due("free(least)", b.free(Cases.LEAST), NONE);
            due("free(most)", b.free(Cases.MOST), NONE);
        });
        test(39, "at 0: to the right alone", b -> {
            Cases.people(b, 1, 0);
            due("free(0)", b.free(0), 2);
        });
        test(39, "at 8: to the left alone", b -> {
            Cases.people(b, 1, 8);
            due("free(0)", b.free(0), 1);
        });
        test(39, "both ways, to 9 and -9", b -> {
            Cases.people(b, 9, 4);
            due("free(0)", b.free(0), 3);
        });
        test(39, "not to 10", b -> {
            Cases.people(b, 5, 5);
            due("free(0)", b.free(0), 1);
        });
        test(39, "not to -10", b -> {
            Cases.people(b, 5, 3);
            due("free(0)", b.free(0), 2);
        });
        test(39, "no way", b -> {
            Cases.people(b, 9, 8);
            due("free(0)", b.free(0), 0);
        });
        test(39, "by the law as it is then", b -> {
            Cases.rule(b, "tips load 5;");
            Cases.people(b, 1, 4);
            due("free(0)", b.free(0), 2);
        });
        test(39, "nobody goes by it", b -> {
            Cases.people(b, 1, 4);
            b.free(0);
            due("of(0, 1)", b.of(0, 1), 4);
            due("about(4)", b.about(4), 0);
        });
    }

    private static void lone() {
        test(40, "nobody", b -> due("lone()", b.lone(), 0));
        test(40, "one", b -> {
            Cases.people(b, 1, 0);
            due("lone()", b.lone(), 1);
        });
        test(40, "all four alone", b -> {
            Cases.people(b, 1, 0, 1, 8, 1, 4, 1, 3);
            due("lone()", b.lone(), 15);
        });
        test(40, "all four together", b -> {
            Cases.people(b, 1, 8, 1, 8, 1, 8, 1, 8);
            due("lone()", b.lone(), 0);
        });
        test(40, "two and two", b -> {
            Cases.people(b, 1, 0, 1, 8, 1, 8, 1, 0);
            due("lone()", b.lone(), 0);
        });
        test(40, "three and one", b -> {
            Cases.people(b, 1, 2, 1, 2, 1, 3, 1, 2);
            due("lone()", b.lone(), 4);
        });
        test(40, "with snow is alone", b -> {
            b.hour(1);
            Cases.people(b, 1, 7);
            due("lone()", b.lone(), 1);
        });
    }

    private static void heaviest() {
        test(41, "nothing: none", b -> due("heaviest()", b.heaviest(), NONE));
        test(41, "a flake is above 0", b -> {
            b.hour(1);
            due("heaviest()", b.heaviest(), 7);
        });
        test(41, "place 0", b -> {
            Cases.people(b, 1, 0);
            due("heaviest()", b.heaviest(), 0);
        });
        test(41, "place 8", b -> {
            Cases.people(b, 1, 0, 2, 8);
            due("heaviest()", b.heaviest(), 8);
        });
        test(41, "of like ones the lowest", b -> {
            Cases.people(b, 2, 8, 2, 5, 2, 7);
            due("heaviest()", b.heaviest(), 5);
        });
        test(41, "two together", b -> {
            Cases.people(b, 3, 1, 2, 6, 2, 6);
            due("heaviest()", b.heaviest(), 6);
        });
        test(41, "all weight, people and snow", b -> {
            b.hour(1);
            Cases.people(b, 1, 7, 1, 2);
            due("heaviest()", b.heaviest(), 7);
        });
        test(41, "all full of snow: place 0", b -> {
            Cases.pass(b, 300);
            due("heaviest()", b.heaviest(), 0);
        });
    }

    private static void travelled() {
        test(42, "nobody", b -> due("travelled()", b.travelled(), NONE));
        test(42, "nobody is written down", b -> {
            Cases.people(b, 1, 4);
            b.walk(0, true);
            due("travelled()", b.travelled(), NONE);
        });
        test(42, "once is enough", b -> {
            Cases.people(b, 9, 8, 1, 4);
            b.hour(1);
            due("travelled()", b.travelled(), 1);
        });
        test(42, "of like ones the lowest", b -> {
            Cases.people(b, 9, 8, 1, 4, 1, 4);
            b.hour(1);
            due("travelled()", b.travelled(), 1);
        });
        test(42, "more often goes ahead of lower", b -> {
            Cases.people(b, 9, 8, 1, 7, 1, 4, 9, 8);
            b.hour(2);
            due("ledger(1)", b.ledger(1), 1);
            due("ledger(2)", b.ledger(2), 2);
            due("travelled()", b.travelled(), 2);
        });
        test(42, "person 0 more often than others", b -> {
            Cases.people(b, 1, 4, 1, 7, 9, 8);
            b.hour(2);
            due("travelled()", b.travelled(), 0);
        });
        test(42, "taken back: none", b -> {
            Cases.people(b, 9, 8, 1, 4);
            b.hour(1);
            b.undo();
            due("travelled()", b.travelled(), NONE);
        });
    }

    private static void ledger() {
        test(43, "nobody", b -> due("ledger(0)", b.ledger(0), -2));
        test(43, "NONE of an empty book", b -> due("ledger(NONE)", b.ledger(NONE), 0));
        test(43, "one who isn't written down", b -> {
            Cases.people(b, 1, 4);
            due("ledger(0)", b.ledger(0), 0);
        });
        test(43, "the person behind the last", b -> {
            Cases.people(b, 1, 4);
            due("ledger(1)", b.ledger(1), -2);
        });
        test(43, "person -2", b -> {
            Cases.people(b, 1, 4);
            due("ledger(-2)", b.ledger(-2), -2);
        });
        test(43, "far off", b -> {
            Cases.people(b, 1, 4);
            due("ledger(least)", b.ledger(Cases.LEAST), -2);
            due("ledger(most)", b.ledger(Cases.MOST), -2);
        });
        test(43, "NONE: all", b -> {
            Cases.people(b, 9, 6, 9, 6, 9, 8);
            b.hour(1);
            due("ledger(NONE)", b.ledger(NONE), 2);
            due("ledger(0)", b.ledger(0), 1);
            due("ledger(2)", b.ledger(2), 0);
        });
        test(43, "one who slid against the end isn't written down again", b -> {
            Cases.people(b, 9, 7, 9, 8);
            b.hour(3);
            due("ledger(0)", b.ledger(0), 1);
        });
    }

    private static void image() {
        test(44, "of a bare beam: hour 0", b -> due("image()", b.image(), 0));
        test(44, "of hour 9999", b -> {
            Cases.pass(b, 9999);
            due("image()", b.image(), 9999);
            b.undo();
            due("back()", b.back(), 9999);
        });
        test(44, "a later one takes the place of an earlier one", b -> {
            b.hour(1);
            b.image();
            b.hour(1);
            due("image()", b.image(), 2);
            b.hour(1);
            due("back()", b.back(), 2);
        });
        test(44, "it is no step", b -> {
            b.image();
            due("about(4)", b.about(4), 0);
        });
        test(44, "what is done later doesn't change it", b -> {
            Cases.people(b, 1, 4);
            b.image();
            b.walk(0, true);
            b.goal(0, 8);
            b.back();
            due("of(0, 1)", b.of(0, 1), 4);
            due("of(0, 2)", b.of(0, 2), NONE);
        });
    }

    private static void back() {
        test(45, "without an image told: the bare beam", b -> {
            b.hour(9);
            due("back()", b.back(), 0);
            due("is(4)", b.is(4), 0);
        });
        test(45, "it stays: back twice", b -> {
            b.hour(2);
            b.image();
            b.hour(1);
            due("back()", b.back(), 2);
            b.hour(5);
            due("back()", b.back(), 2);
            due("is(1)", b.is(1), 15547);
        });
        test(45, "back at once", b -> {
            b.hour(2);
            b.image();
            due("back()", b.back(), 2);
            due("about(4)", b.about(4), 2);
        });
        test(45, "steps are as they were: 30 of them", b -> {
            b.hour(30);
            b.image();
            b.hour(45);
            b.back();
            due("about(4)", b.about(4), 30);
            for (int i = 29; i >= 0; i--) {
                due("undo()", b.undo(), i);
                due("is(0)", b.is(0), i);
            }
            due("undo()", b.undo(), NONE);
        });
        test(45, "steps taken back since come back", b -> {
            b.hour(3);
            b.image();
            b.undo();
            b.undo();
            b.undo();
            due("back()", b.back(), 3);
            due("undo()", b.undo(), 2);
        });
        test(45, "texts told since are none any more", b -> {
            Cases.read(b, "tips 1;");
            b.image();
            Cases.rule(b, "tips 2;");
            b.back();
            due("about(2)", b.about(2), 1);
            due("about(3)", b.about(3), NONE);
            due("by(1)", b.by(1), false);
            due("played(1)", b.played(1), -2);
        });
        test(45, "the text that ruled rules again", b -> {
            Cases.rule(b, "tips 1;");
            b.image();
            b.by(NONE);
            b.back();
            due("about(3)", b.about(3), 0);
            due("is(3)", b.is(3), 1);
        });
        test(45, "what was said is as it was, not what is said since", b -> {
            Cases.people(b, 1, 4, 1, 4);
            Cases.read(b, "slides who + 1;");
            b.said(0, 1);
            b.said(1, 2);
            b.image();
            b.said(NONE, 0);
            b.said(1, 1);
            b.said(0, 3);
            due("whose()", b.whose(), 0);
            b.back();
            due("whose()", b.whose(), 1);
        });
        test(45, "the book is as it was", b -> {
            Cases.people(b, 9, 6);
            b.hour(1);
            b.image();
            b.hour(5);
            b.undo();
            b.back();
            due("book(NONE, 0)", b.book(NONE, 0), 1);
            due("book(0, 0)", b.book(0, 0), 0);
            due("book(0, 3)", b.book(0, 3), 7);
        });
        test(45, "a book from which some were pushed out is as it was", b -> {
            Cases.people(b, 1, 0, 1, 0, 1, 0, 9, 8);
            b.hour(8);
            b.image();
            Cases.rule(b, "tips 99;");
            for (int i = 0; i < 12; i++) {
                b.walk(i % 3, false);
            }
            b.by(NONE);
            b.hour(3);
            due("book(0, 0)", b.book(0, 0), 1);
            b.back();
            due("book(NONE, 0)", b.book(NONE, 0), 24);
            due("book(0, 0)", b.book(0, 0), 0);
            due("book(23, 0)", b.book(23, 0), 7);
        });
        test(45, "hands, people and what was said, at their most", b -> {
            Cases.people(b, 1, 4, 1, 4, 1, 4, 1, 4);
            for (int i = 0; i < 4; i++) {
                b.hand(1, i);
            }
            for (int i = 0; i < 8; i++) {
                b.said(i / 2, 1);
            }
            b.image();
            b.said(NONE, 0);
            b.back();
            due("about(0)", b.about(0), 4);
            due("about(1)", b.about(1), 4);
            due("about(5)", b.about(5), 8);
            due("said(0, 1)", b.said(0, 1), -2);
        });
    }

    private static void backKeeps() {
        test(45, "but the tape: it stays as it is", b -> {
            Cases.feed(b, "abc");
            b.image();
            Cases.feed(b, "de");
            b.back();
            due("about(6)", b.about(6), 5);
        });
        test(45, "but the tape: an empty one stays empty", b -> {
            Cases.feed(b, "tips 1;");
            b.image();
            b.text();
            b.back();
            due("about(6)", b.about(6), 0);
            due("about(2)", b.about(2), 0);
        });
        test(45, "but the latest fault: it stays", b -> {
            b.image();
            Cases.read(b, "left 4;");
            b.back();
            due("fault(0)", b.fault(0), 2);
            due("fault(1)", b.fault(1), 5);
        });
        test(45, "but the latest fault: of a text that is none any more, too", b -> {
            Cases.read(b, "left 4;");
            b.image();
            Cases.read(b, "left 3;");
            b.back();
            due("fault(0)", b.fault(0), 0);
            due("fault(1)", b.fault(1), NONE);
        });
    }

    private static void about() {
        test(46, "what -1", b -> due("about(-1)", b.about(-1), -2));
        test(46, "what 7", b -> due("about(7)", b.about(7), -2));
        test(46, "far off", b -> {
            due("about(least)", b.about(Cases.LEAST), -2);
            due("about(most)", b.about(Cases.MOST), -2);
        });
        test(46, "the text: NONE, and number 0", b -> {
            due("about(3)", b.about(3), NONE);
            Cases.rule(b, "tips 1;");
            due("about(3)", b.about(3), 0);
        });
    }

    private static void aboutFull() {
        test(46, "people: 4 at most", b -> {
            Cases.people(b, 1, 4, 1, 4, 1, 4, 1, 4, 1, 4);
            due("about(0)", b.about(0), 4);
        });
        test(46, "hands: 4 at most", b -> {
            for (int i = 0; i < 5; i++) {
                b.hand(1, 1);
            }
            due("about(1)", b.about(1), 4);
        });
        test(46, "texts: 4 at most", b -> {
            for (int i = 0; i < 5; i++) {
                b.text();
            }
            due("about(2)", b.about(2), 4);
        });
        test(46, "steps: 30 at most", b -> {
            b.hour(60);
            due("about(4)", b.about(4), 30);
        });
        test(46, "said: 8 at most", b -> {
            Cases.people(b, 1, 4);
            for (int i = 0; i < 9; i++) {
                b.said(0, 1);
            }
            due("about(5)", b.about(5), 8);
        });
        test(46, "bytes: 300 at most", b -> {
            for (int i = 0; i < 16; i++) {
                b.feed(0, 0, 0, 0, 0);
            }
            due("about(6)", b.about(6), 300);
        });
    }
}
