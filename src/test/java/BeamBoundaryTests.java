/** The boundary cases of the beam itself: who and what is on it, its steps, its book (promises 1 to 4, 9 to 13, 15 to 22). */
public final class BeamBoundaryTests {
    private static final int NONE = Cases.NONE;

    public static void main(String[] args) {
        newObject();
        newImage();
        person();
        personEdges();
        goal();
        hand();
        by();
        walkEnds();
        walkTip();
        walkLaw();
        walkOthers();
        pairEnds();
        pairTip();
        pairOthers();
        shovelSnow();
        shovelTip();
        shovelOthers();
        hourNumbers();
        hourSnow();
        hourTip();
        hourSlides();
        hourLaw();
        lastHour();
        yearsNumbers();
        yearsWithout();
        yearsDeeds();
        undoCount();
        undoState();
        undoPeople();
        undoRefused();
        of();
        place();
        is();
        bookEmpty();
        bookFull();
        foretold();
        tip();
        Cases.finish(1, 2, 3, 4, 9, 10, 11, 12, 13, 15, 16, 17, 18, 19, 20, 21, 22);
    }

    private static void test(int promise, String sentence, Cases.Case one) {
        Cases.test(promise, sentence, one);
    }

    private static void due(String call, long got, long want) {
        Cases.due(call, got, want);
    }

    private static void due(String call, boolean got, boolean want) {
        Cases.due(call, got, want);
    }

    private static void newObject() {
        test(1, "nobody is on a bare beam", b -> due("about(0)", b.about(0), 0));
        test(1, "no hands", b -> due("about(1)", b.about(1), 0));
        test(1, "no texts", b -> due("about(2)", b.about(2), 0));
        test(1, "the text: at first none", b -> due("about(3)", b.about(3), NONE));
        test(1, "no steps", b -> due("about(4)", b.about(4), 0));
        test(1, "nothing said", b -> due("about(5)", b.about(5), 0));
        test(1, "an empty tape", b -> due("about(6)", b.about(6), 0));
        test(1, "snow: at first 0 in each place", b -> {
            for (int p = 0; p < 9; p++) {
                due("place(" + p + ", 0)", b.place(p, 0), 0);
            }
        });
        test(1, "hour: at first 0", b -> due("is(0)", b.is(0), 0));
        test(1, "X: at first 349", b -> due("is(1)", b.is(1), 349));
        test(1, "the tip of nothing", b -> due("is(2)", b.is(2), 0));
        test(1, "nothing is written", b -> due("book(NONE, 0)", b.book(NONE, 0), 0));
        test(1, "NONE is -1", b -> due("NONE", BoroughBeam.NONE, -1));
    }

    private static void newImage() {
        test(1, "the image is the bare beam: hour", b -> due("back()", b.back(), 0));
        test(1, "the image is the bare beam: hours passed", b -> {
            b.hour(60);
            due("back()", b.back(), 0);
            due("is(0)", b.is(0), 0);
            due("is(1)", b.is(1), 349);
            due("is(4)", b.is(4), 0);
        });
        test(1, "the image is the bare beam: people", b -> {
            Cases.people(b, 1, 1, 2, 2, 3, 3, 4, 4);
            b.back();
            due("about(0)", b.about(0), 0);
            due("person(1, 0)", b.person(1, 0), 0);
        });
        test(1, "the image is the bare beam: hands, texts, said, steps", b -> {
            Cases.people(b, 1, 4);
            b.hand(1, 1);
            Cases.rule(b, "tips 1;");
            b.said(0, 1);
            b.walk(0, true);
            b.back();
            for (int what = 0; what < 7; what++) {
                due("about(" + what + ")", b.about(what), what == 3 ? NONE : 0);
            }
            due("is(3)", b.is(3), 9);
        });
    }

    private static void person() {
        test(2, "weight 0 is too small", b -> due("person(0, 4)", b.person(0, 4), NONE));
        test(2, "weight 10 is too large", b -> due("person(10, 4)", b.person(10, 4), NONE));
        test(2, "weight far below", b -> due("person(least, 4)", b.person(Cases.LEAST, 4), NONE));
        test(2, "weight far above", b -> due("person(most, 4)", b.person(Cases.MOST, 4), NONE));
        test(2, "place -1 is none", b -> due("person(1, -1)", b.person(1, -1), NONE));
        test(2, "place 9 is none", b -> due("person(1, 9)", b.person(1, 9), NONE));
        test(2, "place far below", b -> due("person(1, least)", b.person(1, Cases.LEAST), NONE));
        test(2, "place far above", b -> due("person(1, most)", b.person(1, Cases.MOST), NONE));
        test(2, "both are wrong", b -> due("person(0, 9)", b.person(0, 9), NONE));
        test(2, "weight 1 is enough", b -> {
            due("person(1, 4)", b.person(1, 4), 0);
            due("of(0, 0)", b.of(0, 0), 1);
        });
        test(2, "weight 9 is not too much", b -> {
            due("person(9, 4)", b.person(9, 4), 0);
            due("of(0, 0)", b.of(0, 0), 9);
        });
        test(2, "place 0, an arm of -4", b -> {
            due("person(1, 0)", b.person(1, 0), 0);
            due("is(2)", b.is(2), -4);
        });
        test(2, "place 8, an arm of 4", b -> {
            due("person(1, 8)", b.person(1, 8), 0);
            due("is(2)", b.is(2), 4);
        });
        test(2, "place 4, no arm", b -> {
            due("person(9, 4)", b.person(9, 4), 0);
            due("is(2)", b.is(2), 0);
        });
    }

    private static void personEdges() {
        test(2, "the fourth is 3", b -> {
            Cases.people(b, 1, 4, 1, 4, 1, 4);
            due("person(1, 4)", b.person(1, 4), 3);
        });
        test(2, "there are 4: NONE", b -> {
            Cases.people(b, 1, 4, 1, 4, 1, 4, 1, 4);
            due("person(1, 4)", b.person(1, 4), NONE);
            due("about(0)", b.about(0), 4);
            due("is(4)", b.is(4), 4);
        });
        test(2, "one refused has no number", b -> {
            b.person(0, 4);
            b.person(1, 9);
            due("about(0)", b.about(0), 0);
            due("person(1, 4)", b.person(1, 4), 0);
        });
        test(2, "one told may tip it too far", b -> {
            due("person(9, 8)", b.person(9, 8), 0);
            due("is(2)", b.is(2), 36);
        });
        test(2, "a goal is none at first", b -> {
            Cases.people(b, 1, 4);
            due("of(0, 2)", b.of(0, 2), NONE);
        });
        test(2, "who is told anew behind an image has no old goal", b -> {
            Cases.people(b, 1, 4);
            b.goal(0, 7);
            b.back();
            Cases.people(b, 1, 4);
            due("of(0, 2)", b.of(0, 2), NONE);
        });
        test(2, "it is no step", b -> {
            Cases.people(b, 1, 4);
            due("about(4)", b.about(4), 0);
        });
    }

    private static void goal() {
        test(3, "place 0", b -> {
            Cases.people(b, 1, 4);
            due("goal(0, 0)", b.goal(0, 0), true);
            due("of(0, 2)", b.of(0, 2), 0);
        });
        test(3, "place 8", b -> {
            Cases.people(b, 1, 4);
            due("goal(0, 8)", b.goal(0, 8), true);
            due("of(0, 2)", b.of(0, 2), 8);
        });
        test(3, "place NONE: none", b -> {
            Cases.people(b, 1, 4);
            b.goal(0, 8);
            due("goal(0, NONE)", b.goal(0, NONE), true);
            due("of(0, 2)", b.of(0, 2), NONE);
        });
        test(3, "place NONE where there was none", b -> {
            Cases.people(b, 1, 4);
            due("goal(0, NONE)", b.goal(0, NONE), true);
        });
        test(3, "place -2 is none such, and the goal stays", b -> {
            Cases.people(b, 1, 4);
            b.goal(0, 3);
            due("goal(0, -2)", b.goal(0, -2), false);
            due("of(0, 2)", b.of(0, 2), 3);
        });
        test(3, "place 9 is none such, and the goal stays", b -> {
            Cases.people(b, 1, 4);
            b.goal(0, 3);
            due("goal(0, 9)", b.goal(0, 9), false);
            due("of(0, 2)", b.of(0, 2), 3);
        });
        test(3, "places far off", b -> {
            Cases.people(b, 1, 4);
            due("goal(0, least)", b.goal(0, Cases.LEAST), false);
            due("goal(0, most)", b.goal(0, Cases.MOST), false);
        });
        test(3, "a person not told yet", b -> due("goal(0, 4)", b.goal(0, 4), false));
        test(3, "the person behind the last", b -> {
            Cases.people(b, 1, 4);
            due("goal(1, 4)", b.goal(1, 4), false);
        });
        test(3, "person 3 and person 4", b -> {
            Cases.people(b, 1, 4, 1, 4, 1, 4, 1, 4);
            due("goal(3, 4)", b.goal(3, 4), true);
            due("goal(4, 4)", b.goal(4, 4), false);
        });
        test(3, "person NONE", b -> {
            Cases.people(b, 1, 4);
            due("goal(-1, 4)", b.goal(-1, 4), false);
            due("goal(least, 4)", b.goal(Cases.LEAST, 4), false);
        });
        test(3, "nobody's goal is no goal, with NONE too", b -> due("goal(0, NONE)", b.goal(0, NONE), false));
    }

    private static void hand() {
        test(4, "weight 0", b -> due("hand(0, 1)", b.hand(0, 1), NONE));
        test(4, "weight 10", b -> due("hand(10, 1)", b.hand(10, 1), NONE));
        test(4, "weights far off", b -> {
            due("hand(least, 1)", b.hand(Cases.LEAST, 1), NONE);
            due("hand(most, 1)", b.hand(Cases.MOST, 1), NONE);
        });
        test(4, "wage -1", b -> due("hand(1, -1)", b.hand(1, -1), NONE));
        test(4, "wage 100", b -> due("hand(1, 100)", b.hand(1, 100), NONE));
        test(4, "wages far off", b -> {
            due("hand(1, least)", b.hand(1, Cases.LEAST), NONE);
            due("hand(1, most)", b.hand(1, Cases.MOST), NONE);
        });
        test(4, "weight 1, wage 0", b -> due("hand(1, 0)", b.hand(1, 0), 0));
        test(4, "weight 9, wage 99", b -> due("hand(9, 99)", b.hand(9, 99), 0));
        test(4, "the fourth is 3, a fifth is none", b -> {
            for (int i = 0; i < 4; i++) {
                due("hand(1, 1)", b.hand(1, 1), i);
            }
            due("hand(1, 1)", b.hand(1, 1), NONE);
            due("about(1)", b.about(1), 4);
        });
        test(4, "one refused has no number", b -> {
            b.hand(0, 0);
            b.hand(1, 100);
            due("about(1)", b.about(1), 0);
            due("hand(1, 1)", b.hand(1, 1), 0);
        });
        test(4, "a hand is not on the beam", b -> {
            b.hand(9, 9);
            due("is(4)", b.is(4), 0);
            due("about(0)", b.about(0), 0);
        });
    }

    private static void by() {
        test(9, "no texts: 0 is none such", b -> due("by(0)", b.by(0), false));
        test(9, "NONE without texts", b -> due("by(NONE)", b.by(NONE), true));
        test(9, "-2", b -> due("by(-2)", b.by(-2), false));
        test(9, "far off", b -> {
            due("by(least)", b.by(Cases.LEAST), false);
            due("by(most)", b.by(Cases.MOST), false);
        });
        test(9, "the text behind the last, the one that rules stays", b -> {
            Cases.rule(b, "tips 3;");
            due("by(1)", b.by(1), false);
            due("about(3)", b.about(3), 0);
            due("is(3)", b.is(3), 3);
        });
        test(9, "text 3 and text 4", b -> {
            for (int i = 0; i < 4; i++) {
                Cases.read(b, "tips " + (20 + i) + ";");
            }
            due("by(3)", b.by(3), true);
            due("is(3)", b.is(3), 23);
            due("by(4)", b.by(4), false);
            due("is(3)", b.is(3), 23);
        });
        test(9, "NONE: none rules any more", b -> {
            Cases.people(b, 1, 4);
            Cases.rule(b, "tips 3; slides 2;");
            due("by(NONE)", b.by(NONE), true);
            due("about(3)", b.about(3), NONE);
            due("is(3)", b.is(3), 9);
            due("of(0, 3)", b.of(0, 3), 1);
        });
        test(9, "the same again", b -> {
            Cases.rule(b, "tips 3;");
            due("by(0)", b.by(0), true);
            due("is(3)", b.is(3), 3);
        });
        test(9, "a text that was read does not rule yet", b -> {
            Cases.read(b, "tips 3;");
            due("about(3)", b.about(3), NONE);
            due("is(3)", b.is(3), 9);
        });
        test(9, "a text with a fault is none to rule", b -> {
            Cases.read(b, "tips 3");
            due("by(0)", b.by(0), false);
        });
    }

    private static void walkEnds() {
        test(10, "no place is beside 0 on the left", b -> {
            Cases.people(b, 1, 0);
            due("walk(0, false)", b.walk(0, false), false);
            due("of(0, 1)", b.of(0, 1), 0);
            due("about(4)", b.about(4), 0);
        });
        test(10, "no place is beside 8 on the right", b -> {
            Cases.people(b, 1, 8);
            due("walk(0, true)", b.walk(0, true), false);
            due("of(0, 1)", b.of(0, 1), 8);
            due("about(4)", b.about(4), 0);
        });
        test(10, "from 1 to 0", b -> {
            Cases.people(b, 1, 1);
            due("walk(0, false)", b.walk(0, false), true);
            due("of(0, 1)", b.of(0, 1), 0);
        });
        test(10, "from 7 to 8", b -> {
            Cases.people(b, 1, 7);
            due("walk(0, true)", b.walk(0, true), true);
            due("of(0, 1)", b.of(0, 1), 8);
        });
        test(10, "from 0 to 1", b -> {
            Cases.people(b, 1, 0);
            due("walk(0, true)", b.walk(0, true), true);
            due("of(0, 1)", b.of(0, 1), 1);
        });
        test(10, "from 8 to 7", b -> {
            Cases.people(b, 1, 8);
            due("walk(0, false)", b.walk(0, false), true);
            due("of(0, 1)", b.of(0, 1), 7);
        });
        test(10, "to where another is", b -> {
            Cases.people(b, 1, 4, 1, 5);
            due("walk(0, true)", b.walk(0, true), true);
            due("place(5, 1)", b.place(5, 1), 3);
        });
    }

    private static void walkTip() {
        test(10, "a tip of 9 is no farther than 9", b -> {
            Cases.people(b, 9, 4);
            due("walk(0, true)", b.walk(0, true), true);
            due("is(2)", b.is(2), 9);
        });
        test(10, "a tip of 10 is farther than 9", b -> {
            Cases.people(b, 5, 5);
            due("walk(0, true)", b.walk(0, true), false);
            due("of(0, 1)", b.of(0, 1), 5);
            due("is(2)", b.is(2), 5);
            due("about(4)", b.about(4), 0);
        });
        test(10, "a tip of -9 is no farther than 9", b -> {
            Cases.people(b, 9, 4);
            due("walk(0, false)", b.walk(0, false), true);
            due("is(2)", b.is(2), -9);
        });
        test(10, "a tip of -10 is farther than 9", b -> {
            Cases.people(b, 5, 3);
            due("walk(0, false)", b.walk(0, false), false);
            due("of(0, 1)", b.of(0, 1), 3);
        });
        test(10, "from too far to 9", b -> {
            Cases.people(b, 3, 8);
            due("walk(0, false)", b.walk(0, false), true);
            due("is(2)", b.is(2), 9);
        });
        test(10, "from too far to nearer, but too far yet", b -> {
            Cases.people(b, 5, 8);
            due("walk(0, false)", b.walk(0, false), false);
            due("of(0, 1)", b.of(0, 1), 8);
        });
        test(10, "from one side to the other", b -> {
            Cases.people(b, 9, 5, 4, 3);
            due("is(2)", b.is(2), 5);
            due("walk(0, false)", b.walk(0, false), true);
            due("is(2)", b.is(2), -4);
        });
        test(10, "snow tips it, too", b -> {
            b.hour(1); // 3 by the snow in place 7
            Cases.people(b, 7, 4, 6, 4);
            due("walk(0, true) to 10", b.walk(0, true), false);
            due("walk(1, true) to 9", b.walk(1, true), true);
        });
    }

    private static void walkLaw() {
        test(10, "tips 0: level it may be", b -> {
            Cases.rule(b, "tips 0;");
            Cases.people(b, 1, 3);
            due("walk(0, true)", b.walk(0, true), true);
            due("walk(0, true)", b.walk(0, true), false);
            due("of(0, 1)", b.of(0, 1), 4);
        });
        test(10, "tips 99: 99 it may be, not 100", b -> {
            Cases.rule(b, "tips 9999;");
            Cases.people(b, 9, 8, 9, 8, 9, 7, 1, 3);
            due("is(2)", b.is(2), 98);
            due("walk(3, true) to 99", b.walk(3, true), true);
            due("walk(3, true) to 100", b.walk(3, true), false);
        });
        test(10, "tips as it is then: wider behind the going", b -> {
            Cases.rule(b, "tips load 5;");
            Cases.people(b, 5, 4);
            due("is(3)", b.is(3), 0);
            due("walk(0, true)", b.walk(0, true), true);
        });
        test(10, "tips as it is then: narrower behind the going", b -> {
            Cases.rule(b, "tips load 4;");
            Cases.people(b, 5, 4);
            due("is(3)", b.is(3), 5);
            due("walk(0, true)", b.walk(0, true), false);
        });
        test(10, "tips by the tip as it is then", b -> {
            Cases.rule(b, "tips tip;");
            Cases.people(b, 5, 4);
            due("walk(0, false), tips is 0 at -5", b.walk(0, false), false);
            due("walk(0, true), tips is 5 at 5", b.walk(0, true), true);
        });
    }

    private static void walkOthers() {
        test(10, "nobody is there", b -> due("walk(0, true)", b.walk(0, true), false));
        test(10, "the person behind the last", b -> {
            Cases.people(b, 1, 4);
            due("walk(1, true)", b.walk(1, true), false);
        });
        test(10, "person -1", b -> {
            Cases.people(b, 1, 4);
            due("walk(-1, true)", b.walk(-1, true), false);
        });
        test(10, "persons 3 and 4 of four", b -> {
            Cases.people(b, 1, 4, 1, 4, 1, 4, 1, 4);
            due("walk(3, true)", b.walk(3, true), true);
            due("walk(4, true)", b.walk(4, true), false);
        });
        test(10, "persons far off", b -> {
            Cases.people(b, 1, 4);
            due("walk(least, true)", b.walk(Cases.LEAST, true), false);
            due("walk(most, false)", b.walk(Cases.MOST, false), false);
            due("about(4)", b.about(4), 0);
        });
    }

    private static void pairEnds() {
        test(11, "a can't go to the left of 0: neither goes", b -> {
            Cases.people(b, 1, 0, 1, 4);
            due("pair(0, false, 1, true)", b.pair(0, false, 1, true), false);
            due("of(0, 1)", b.of(0, 1), 0);
            due("of(1, 1)", b.of(1, 1), 4);
            due("about(4)", b.about(4), 0);
        });
        test(11, "a can't go to the right of 8: neither goes", b -> {
            Cases.people(b, 1, 8, 1, 4);
            due("pair(0, true, 1, false)", b.pair(0, true, 1, false), false);
            due("of(1, 1)", b.of(1, 1), 4);
        });
        test(11, "b can't go to the left of 0: neither goes", b -> {
            Cases.people(b, 1, 4, 1, 0);
            due("pair(0, true, 1, false)", b.pair(0, true, 1, false), false);
            due("of(0, 1)", b.of(0, 1), 4);
        });
        test(11, "b can't go to the right of 8: neither goes", b -> {
            Cases.people(b, 1, 4, 1, 8);
            due("pair(0, true, 1, true)", b.pair(0, true, 1, true), false);
            due("of(0, 1)", b.of(0, 1), 4);
            due("about(4)", b.about(4), 0);
        });
        test(11, "both to the ends", b -> {
            Cases.people(b, 9, 1, 9, 7);
            due("pair(0, false, 1, true)", b.pair(0, false, 1, true), true);
            due("of(0, 1)", b.of(0, 1), 0);
            due("of(1, 1)", b.of(1, 1), 8);
        });
    }

    private static void pairTip() {
        test(11, "a tip of 9", b -> {
            Cases.people(b, 4, 4, 5, 4);
            due("pair(0, true, 1, true)", b.pair(0, true, 1, true), true);
            due("is(2)", b.is(2), 9);
        });
        test(11, "a tip of 10", b -> {
            Cases.people(b, 5, 4, 5, 4);
            due("pair(0, true, 1, true)", b.pair(0, true, 1, true), false);
            due("of(0, 1)", b.of(0, 1), 4);
            due("of(1, 1)", b.of(1, 1), 4);
            due("about(4)", b.about(4), 0);
        });
        test(11, "a tip of -9", b -> {
            Cases.people(b, 4, 4, 5, 4);
            due("pair(0, false, 1, false)", b.pair(0, false, 1, false), true);
            due("is(2)", b.is(2), -9);
        });
        test(11, "a tip of -10", b -> {
            Cases.people(b, 5, 4, 5, 4);
            due("pair(0, false, 1, false)", b.pair(0, false, 1, false), false);
        });
        test(11, "both at once, where neither could alone", b -> {
            Cases.rule(b, "tips 0;");
            Cases.people(b, 2, 4, 2, 4);
            due("walk(0, true)", b.walk(0, true), false);
            due("walk(1, false)", b.walk(1, false), false);
            due("pair(0, true, 1, false)", b.pair(0, true, 1, false), true);
            due("about(4), one step", b.about(4), 1);
        });
        test(11, "the law as it is then", b -> {
            Cases.rule(b, "tips load 5;");
            Cases.people(b, 2, 4, 2, 4);
            due("pair(0, true, 1, true)", b.pair(0, true, 1, true), true);
            due("pair(0, true, 1, true)", b.pair(0, true, 1, true), false);
        });
    }

    private static void pairOthers() {
        test(11, "like ones are no pair", b -> {
            Cases.people(b, 1, 4, 1, 4);
            due("pair(0, true, 0, false)", b.pair(0, true, 0, false), false);
            due("pair(1, true, 1, true)", b.pair(1, true, 1, true), false);
            due("about(4)", b.about(4), 0);
        });
        test(11, "a above b", b -> {
            Cases.people(b, 1, 4, 1, 4);
            due("pair(1, true, 0, false)", b.pair(1, true, 0, false), true);
            due("of(0, 1)", b.of(0, 1), 3);
            due("of(1, 1)", b.of(1, 1), 5);
        });
        test(11, "a isn't told", b -> {
            Cases.people(b, 1, 4);
            due("pair(1, true, 0, false)", b.pair(1, true, 0, false), false);
        });
        test(11, "b isn't told", b -> {
            Cases.people(b, 1, 4);
            due("pair(0, true, 1, false)", b.pair(0, true, 1, false), false);
            due("of(0, 1)", b.of(0, 1), 4);
        });
        test(11, "-1 for one of them", b -> {
            Cases.people(b, 1, 4, 1, 4);
            due("pair(-1, true, 0, false)", b.pair(-1, true, 0, false), false);
            due("pair(0, true, -1, false)", b.pair(0, true, -1, false), false);
        });
        test(11, "far off", b -> {
            Cases.people(b, 1, 4, 1, 4);
            due("pair(least, true, 0, false)", b.pair(Cases.LEAST, true, 0, false), false);
            due("pair(0, true, most, false)", b.pair(0, true, Cases.MOST, false), false);
            due("of(0, 1)", b.of(0, 1), 4);
        });
        test(11, "nobody", b -> due("pair(0, true, 1, false)", b.pair(0, true, 1, false), false));
    }

    /** Nine flakes in places 0, 4, 6 and 7 by then; the tip is -4. */
    private static void deepSnow(BoroughBeam b) {
        Cases.rule(b, "tips 99;");
        b.hour(60);
        b.hour(5);
        due("place(0, 0)", b.place(0, 0), 9);
        due("is(2)", b.is(2), -4);
    }

    private static void shovelSnow() {
        test(12, "as much as it has", b -> {
            b.hour(1);
            due("shovel(7, 1)", b.shovel(7, 1), true);
            due("place(7, 0)", b.place(7, 0), 0);
        });
        test(12, "one more than it has", b -> {
            b.hour(1);
            due("shovel(7, 2)", b.shovel(7, 2), false);
            due("place(7, 0)", b.place(7, 0), 1);
            due("about(4)", b.about(4), 1);
        });
        test(12, "of none", b -> due("shovel(4, 1)", b.shovel(4, 1), false));
        test(12, "9 of 9", b -> {
            deepSnow(b);
            due("shovel(0, 9)", b.shovel(0, 9), true);
            due("place(0, 0)", b.place(0, 0), 0);
            due("is(2)", b.is(2), 32);
        });
        test(12, "8 of 9", b -> {
            deepSnow(b);
            due("shovel(4, 8)", b.shovel(4, 8), true);
            due("place(4, 0)", b.place(4, 0), 1);
        });
        test(12, "place 0, place 8", b -> {
            deepSnow(b);
            due("shovel(0, 1)", b.shovel(0, 1), true);
            due("shovel(8, 1)", b.shovel(8, 1), true);
            due("place(8, 0)", b.place(8, 0), 3);
        });
        test(12, "5 of 4", b -> {
            deepSnow(b);
            due("shovel(8, 5)", b.shovel(8, 5), false);
            due("shovel(8, 4)", b.shovel(8, 4), true);
        });
    }

    private static void shovelTip() {
        test(12, "a tip of -9 by it", b -> {
            b.hour(1);
            Cases.people(b, 3, 1);
            due("shovel(7, 1)", b.shovel(7, 1), true);
            due("is(2)", b.is(2), -9);
        });
        test(12, "a tip of -10 by it", b -> {
            b.hour(1);
            Cases.people(b, 5, 2);
            due("shovel(7, 1)", b.shovel(7, 1), false);
            due("place(7, 0)", b.place(7, 0), 1);
            due("about(4)", b.about(4), 1);
        });
        test(12, "a tip of 9 by it", b -> {
            b.hour(4); // places 7, 6, 4, 1
            Cases.people(b, 4, 5);
            due("shovel(1, 1)", b.shovel(1, 1), true);
            due("is(2)", b.is(2), 9);
        });
        test(12, "a tip of 10 by it", b -> {
            b.hour(4);
            Cases.people(b, 5, 5);
            due("shovel(1, 1)", b.shovel(1, 1), false);
            due("is(2)", b.is(2), 7);
        });
        test(12, "from too far to nearer, but too far yet", b -> {
            b.hour(1);
            Cases.people(b, 5, 6);
            due("is(2)", b.is(2), 13);
            due("shovel(7, 1)", b.shovel(7, 1), false);
        });
        test(12, "from too far to 9", b -> {
            b.hour(1);
            Cases.people(b, 3, 7);
            due("is(2)", b.is(2), 12);
            due("shovel(7, 1)", b.shovel(7, 1), true);
        });
        test(12, "on the stone it can't tip, but too far is too far", b -> {
            b.hour(3);
            Cases.people(b, 5, 5);
            due("is(2)", b.is(2), 10);
            due("shovel(4, 1)", b.shovel(4, 1), false);
        });
        test(12, "the law as it is then", b -> {
            b.hour(1);
            Cases.rule(b, "tips 5 * snow;");
            Cases.people(b, 1, 3);
            due("is(3)", b.is(3), 5);
            due("shovel(7, 1), tips is 0 then", b.shovel(7, 1), false);
        });
    }

    private static void shovelOthers() {
        test(12, "n 0", b -> {
            deepSnow(b);
            due("shovel(0, 0)", b.shovel(0, 0), false);
        });
        test(12, "n 0 of no snow", b -> due("shovel(0, 0)", b.shovel(0, 0), false));
        test(12, "n -1", b -> {
            deepSnow(b);
            due("shovel(1, -1)", b.shovel(1, -1), false);
            due("place(1, 0)", b.place(1, 0), 5);
        });
        test(12, "n 10", b -> {
            deepSnow(b);
            due("shovel(0, 10)", b.shovel(0, 10), false);
            due("place(0, 0)", b.place(0, 0), 9);
        });
        test(12, "place -1", b -> due("shovel(-1, 1)", b.shovel(-1, 1), false));
        test(12, "place 9", b -> due("shovel(9, 1)", b.shovel(9, 1), false));
        test(12, "far off", b -> {
            deepSnow(b);
            due("shovel(least, 1)", b.shovel(Cases.LEAST, 1), false);
            due("shovel(most, 1)", b.shovel(Cases.MOST, 1), false);
            due("shovel(0, least)", b.shovel(0, Cases.LEAST), false);
            due("shovel(0, most)", b.shovel(0, Cases.MOST), false);
            due("about(4)", b.about(4), 30);
            due("place(0, 0)", b.place(0, 0), 9);
        });
    }

    private static void hourNumbers() {
        test(13, "0 hours", b -> due("hour(0)", b.hour(0), NONE));
        test(13, "-1 hours", b -> due("hour(-1)", b.hour(-1), NONE));
        test(13, "61 hours, nothing is done", b -> {
            due("hour(61)", b.hour(61), NONE);
            due("is(0)", b.is(0), 0);
            due("is(1)", b.is(1), 349);
            due("about(4)", b.about(4), 0);
        });
        test(13, "hours far off", b -> {
            due("hour(least)", b.hour(Cases.LEAST), NONE);
            due("hour(most)", b.hour(Cases.MOST), NONE);
            due("is(0)", b.is(0), 0);
        });
        test(13, "1 hour", b -> {
            due("hour(1)", b.hour(1), 0);
            due("is(0)", b.is(0), 1);
            due("is(1)", b.is(1), 25170);
        });
        test(13, "60 hours", b -> {
            Cases.rule(b, "tips 99;");
            due("hour(60)", b.hour(60), 0);
            due("is(0)", b.is(0), 60);
        });
        test(13, "each of 60 hours can slip", b -> {
            Cases.people(b, 9, 8, 9, 8, 9, 8);
            due("hour(60)", b.hour(60), 60);
        });
        test(13, "each hour is a step", b -> {
            b.hour(7);
            due("about(4)", b.about(4), 7);
        });
    }

    private static void hourSnow() {
        test(13, "X mod 9 is the place, X is anew then", b -> {
            b.hour(1);
            due("place(7, 0)", b.place(7, 0), 1);
            due("is(4)", b.is(4), 1);
        });
        test(13, "a draw of 0: place 0", b -> {
            Cases.rule(b, "tips 99;");
            b.hour(17);
            due("place(0, 0)", b.place(0, 0), 0);
            b.hour(1); // 11628 is 0 by 9
            due("place(0, 0)", b.place(0, 0), 1);
        });
        test(13, "a draw of 8: place 8", b -> {
            Cases.rule(b, "tips 99;");
            b.hour(12);
            due("place(8, 0)", b.place(8, 0), 0);
            b.hour(1); // 15632 is 8 by 9
            due("place(8, 0)", b.place(8, 0), 1);
        });
        test(13, "9 at most: where there are 9 none is more, all else goes on", b -> {
            deepSnow(b);
            due("is(1), 0 by 9", b.is(1) % 9, 0);
            due("hour(1)", b.hour(1), 0);
            due("place(0, 0)", b.place(0, 0), 9);
            due("is(4)", b.is(4), 65);
            due("is(0)", b.is(0), 66);
            due("is(1)", b.is(1), 19787);
        });
        test(13, "all places are full", b -> {
            Cases.rule(b, "tips 99;");
            b.hour(60);
            b.hour(60);
            b.hour(60);
            b.hour(20);
            due("is(4)", b.is(4), 81);
            due("is(2)", b.is(2), 0);
            due("hour(60)", b.hour(60), 0);
            due("is(4)", b.is(4), 81);
        });
    }

    private static void hourTip() {
        test(13, "a tip of 9 is no farther than 9", b -> {
            Cases.people(b, 3, 6);
            due("hour(1)", b.hour(1), 0);
            due("of(0, 1)", b.of(0, 1), 6);
        });
        test(13, "a tip of 10 slips, to the right", b -> {
            Cases.people(b, 7, 5);
            due("hour(1)", b.hour(1), 1);
            due("of(0, 1)", b.of(0, 1), 6);
        });
        test(13, "a tip of -9 is no farther than 9", b -> {
            Cases.people(b, 3, 0);
            due("hour(1)", b.hour(1), 0);
            due("of(0, 1)", b.of(0, 1), 0);
        });
        test(13, "a tip of -10 slips, to the left", b -> {
            Cases.people(b, 3, 0, 1, 3);
            due("hour(1)", b.hour(1), 1);
            due("of(1, 1)", b.of(1, 1), 2);
        });
        test(13, "tips 0, a tip of 0", b -> {
            Cases.rule(b, "tips 0;");
            Cases.people(b, 3, 3);
            due("hour(1)", b.hour(1), 0);
            due("of(0, 1)", b.of(0, 1), 3);
        });
        test(13, "tips 0, a tip of 1", b -> {
            Cases.rule(b, "tips 0;");
            Cases.people(b, 2, 3);
            due("hour(1)", b.hour(1), 1);
            due("of(0, 1)", b.of(0, 1), 4);
        });
        test(13, "tips 0, a tip of -1", b -> {
            Cases.rule(b, "tips 0;");
            Cases.people(b, 4, 3);
            due("hour(1)", b.hour(1), 1);
            due("of(0, 1)", b.of(0, 1), 2);
        });
        test(13, "the hour's snow levels it: it doesn't slip", b -> {
            Cases.rule(b, "tips 2;");
            Cases.people(b, 5, 3);
            due("is(2)", b.is(2), -5);
            due("hour(1)", b.hour(1), 0);
        });
        test(13, "it slips with nobody on it", b -> {
            Cases.rule(b, "tips 2;");
            due("hour(1)", b.hour(1), 1);
            due("book(NONE, 0)", b.book(NONE, 0), 0);
            due("is(0)", b.is(0), 1);
        });
    }

    private static void hourSlides() {
        test(13, "not beyond 8, and who stays isn't written", b -> {
            Cases.people(b, 9, 8);
            due("hour(1)", b.hour(1), 1);
            due("of(0, 1)", b.of(0, 1), 8);
            due("book(NONE, 0)", b.book(NONE, 0), 0);
        });
        test(13, "not beyond 0, and who stays isn't written", b -> {
            Cases.people(b, 9, 0);
            due("hour(1)", b.hour(1), 1);
            due("of(0, 1)", b.of(0, 1), 0);
            due("book(NONE, 0)", b.book(NONE, 0), 0);
        });
        test(13, "3 from 7 is to 8, and written", b -> {
            Cases.rule(b, "slides 3;");
            Cases.people(b, 9, 7);
            b.hour(1);
            due("of(0, 1)", b.of(0, 1), 8);
            due("book(0, 2)", b.book(0, 2), 7);
            due("book(0, 3)", b.book(0, 3), 8);
        });
        test(13, "3 from 1 is to 0, and written", b -> {
            Cases.rule(b, "slides 3;");
            Cases.people(b, 9, 1);
            b.hour(1);
            due("of(0, 1)", b.of(0, 1), 0);
            due("book(0, 3)", b.book(0, 3), 0);
        });
        test(13, "3 from 5 is to 8", b -> {
            Cases.rule(b, "slides 3;");
            Cases.people(b, 9, 5);
            b.hour(1);
            due("of(0, 1)", b.of(0, 1), 8);
        });
        test(13, "slides 0: it slips, nobody comes anywhere", b -> {
            Cases.rule(b, "slides 0;");
            Cases.people(b, 9, 6);
            due("hour(1)", b.hour(1), 1);
            due("of(0, 1)", b.of(0, 1), 6);
            due("book(NONE, 0)", b.book(NONE, 0), 0);
        });
        test(13, "all four slide, by number", b -> {
            Cases.people(b, 9, 6, 9, 5, 9, 4, 9, 3);
            due("hour(1)", b.hour(1), 1);
            due("book(NONE, 0)", b.book(NONE, 0), 4);
            for (int i = 0; i < 4; i++) {
                due("book(" + i + ", 1)", b.book(i, 1), i);
                due("of(" + i + ", 1)", b.of(i, 1), 7 - i);
            }
        });
    }

    private static void hourLaw() {
        test(13, "slides as it is then: the tip grows while they slide", b -> {
            Cases.rule(b, "tips 0; slides if tip > 10 then 3 else 1 end;");
            // 3 by snow and -2 is 1; behind the first one's slide 3, behind the second one's 12.
            Cases.people(b, 2, 3, 9, 4, 1, 4);
            due("hour(1)", b.hour(1), 1);
            due("of(0, 1)", b.of(0, 1), 4);
            due("of(1, 1)", b.of(1, 1), 5);
            due("of(2, 1)", b.of(2, 1), 7);
        });
        test(13, "slides as it is then: who slid away loads its place no more", b -> {
            Cases.rule(b, "tips 0; slides if load 5 > 0 then 2 else 1 end;");
            Cases.people(b, 1, 5, 1, 4);
            b.hour(1);
            due("of(0, 1)", b.of(0, 1), 7);
            due("of(1, 1)", b.of(1, 1), 5);
        });
        test(13, "slides of the hour as it is, not one more yet", b -> {
            Cases.rule(b, "tips 0; slides hour + 1;");
            Cases.people(b, 1, 4);
            b.hour(1);
            due("of(0, 1)", b.of(0, 1), 5);
            due("book(0, 0)", b.book(0, 0), 0);
        });
        test(13, "tips with the hour's snow", b -> {
            Cases.rule(b, "tips if snow = 1 then 99 else 0 end;");
            Cases.people(b, 9, 6);
            due("hour(1)", b.hour(1), 0);
            due("hour(1)", b.hour(1), 1);
        });
    }

    private static void lastHour() {
        test(13, "59 hours are left: 60 are beyond 9999, nothing is done", b -> {
            Cases.pass(b, 9940);
            int x = b.is(1);
            due("hour(60)", b.hour(60), NONE);
            due("is(0)", b.is(0), 9940);
            due("is(1)", b.is(1), x);
        });
        test(13, "60 hours are left: 60 pass", b -> {
            Cases.pass(b, 9939);
            due("hour(60)", b.hour(60), 0);
            due("is(0)", b.is(0), 9999);
        });
        test(13, "at 9999 none can pass", b -> {
            Cases.pass(b, 9999);
            due("hour(1)", b.hour(1), NONE);
            due("is(0)", b.is(0), 9999);
            due("about(4)", b.about(4), 30);
        });
        test(13, "at 9998 one can", b -> {
            Cases.pass(b, 9998);
            due("hour(2)", b.hour(2), NONE);
            due("hour(1)", b.hour(1), 0);
            due("is(0)", b.is(0), 9999);
        });
        test(13, "the hour before the last is written as 9998", b -> {
            Cases.pass(b, 9998);
            Cases.people(b, 9, 6);
            due("hour(1)", b.hour(1), 1);
            due("book(0, 0)", b.book(0, 0), 9998);
        });
        test(16, "the last hour can be taken back, and pass again", b -> {
            Cases.pass(b, 9999);
            due("undo()", b.undo(), 29);
            due("is(0)", b.is(0), 9998);
            due("hour(1)", b.hour(1), 0);
            due("is(0)", b.is(0), 9999);
        });
        test(15, "at 9999 years go on without hours", b -> {
            Cases.pass(b, 9999);
            due("years(2, 1)", b.years(2, 1), 9999); // 353 is 5 by 6
            due("is(1), one draw alone", b.is(1), (353 * 601 + 467) % 30841);
            due("is(4)", b.is(4), 81);
        });
        test(21, "at 9999 nothing more comes", b -> {
            Cases.pass(b, 9999);
            Cases.people(b, 9, 6);
            due("foretold(1, 0)", b.foretold(1, 0), 6);
            due("foretold(60, 0)", b.foretold(60, 0), 6);
        });
        test(21, "at 9998 one hour comes, of 60 too", b -> {
            Cases.pass(b, 9998);
            Cases.people(b, 9, 5, 9, 5);
            due("foretold(60, 0)", b.foretold(60, 0), 6);
        });
    }

    private static void yearsNumbers() {
        test(15, "seed -1", b -> due("years(-1, 1)", b.years(-1, 1), NONE));
        test(15, "seed 10000", b -> due("years(10000, 1)", b.years(10000, 1), NONE));
        test(15, "seeds far off", b -> {
            due("years(least, 1)", b.years(Cases.LEAST, 1), NONE);
            due("years(most, 1)", b.years(Cases.MOST, 1), NONE);
        });
        test(15, "n 0", b -> due("years(1, 0)", b.years(1, 0), NONE));
        test(15, "n -1", b -> due("years(1, -1)", b.years(1, -1), NONE));
        test(15, "n 41, nothing is done", b -> {
            due("years(1, 41)", b.years(1, 41), NONE);
            due("is(1)", b.is(1), 349);
            due("about(4)", b.about(4), 0);
        });
        test(15, "n far off", b -> {
            due("years(1, least)", b.years(1, Cases.LEAST), NONE);
            due("years(1, most)", b.years(1, Cases.MOST), NONE);
        });
        test(15, "seed 0: X is 349", b -> {
            due("years(0, 1)", b.years(0, 1), 0);
            due("is(1)", b.is(1), 25170);
        });
        test(15, "seed 9999: X is 20347", b -> {
            due("years(9999, 1)", b.years(9999, 1), 0);
            due("is(1)", b.is(1), 15978);
        });
        test(15, "n 40, one step", b -> {
            due("years(0, 40)", b.years(0, 40), 9);
            due("is(1)", b.is(1), 4488);
            due("about(4)", b.about(4), 1);
        });
        test(15, "n 40 by seed 9999", b -> {
            due("years(9999, 40)", b.years(9999, 40), 14);
            due("is(1)", b.is(1), 17014);
            int[] snow = {2, 0, 3, 0, 1, 1, 2, 2, 1};
            for (int p = 0; p < 9; p++) {
                due("place(" + p + ", 0)", b.place(p, 0), snow[p]);
            }
        });
    }

    private static void yearsWithout() {
        test(15, "what there are none of isn't: nobody to go", b -> {
            due("years(0, 1)", b.years(0, 1), 0); // 349 is 1 by 6
            due("about(0)", b.about(0), 0);
            due("about(4)", b.about(4), 1);
        });
        test(15, "nobody to go as a pair", b -> {
            due("years(1, 1)", b.years(1, 1), 0); // 351 is 3 by 6
            due("about(4)", b.about(4), 1);
        });
        test(15, "one alone is no pair", b -> {
            Cases.people(b, 1, 4);
            due("years(1, 1)", b.years(1, 1), 0);
            due("of(0, 1)", b.of(0, 1), 4);
        });
        test(15, "like ones are no pair", b -> {
            Cases.people(b, 1, 4, 1, 4);
            due("years(4, 1)", b.years(4, 1), 0); // 357: 1 by 2, and 59 is 1 by 2
            due("of(0, 1)", b.of(0, 1), 4);
            due("of(1, 1)", b.of(1, 1), 4);
        });
        test(15, "no snow to shovel", b -> {
            due("years(105, 2)", b.years(105, 2), 0); // 559 is 1 by 6; 28016 is 2 by 6, 4669 is 7 by 9
            due("place(7, 0)", b.place(7, 0), 0);
            due("is(4)", b.is(4), 0);
        });
    }

    private static void yearsDeeds() {
        test(15, "1: to the right, by x mod how many", b -> {
            Cases.people(b, 1, 4, 1, 4, 1, 4, 1, 4);
            b.years(0, 1); // 349 is 1 by 6 and by 4
            due("of(1, 1)", b.of(1, 1), 5);
            due("place(4, 1)", b.place(4, 1), 13);
        });
        test(15, "0: to the left", b -> {
            Cases.people(b, 1, 4, 1, 4, 1, 4, 1, 4);
            b.years(0, 2); // then 25170: 0 by 6, 2 by 4
            due("of(1, 1)", b.of(1, 1), 5);
            due("of(2, 1)", b.of(2, 1), 3);
        });
        test(15, "a going beyond the end isn't", b -> {
            Cases.people(b, 1, 8);
            b.years(0, 1);
            due("of(0, 1)", b.of(0, 1), 8);
        });
        test(15, "a going that tips too far isn't", b -> {
            Cases.people(b, 5, 5);
            b.years(0, 1);
            due("of(0, 1)", b.of(0, 1), 5);
        });
        test(15, "3: a pair, x mod to the left, x / 6 mod to the right", b -> {
            Cases.people(b, 2, 4, 3, 4);
            b.years(1, 1); // 351: 1 by 2; 58: 0 by 2
            due("of(1, 1)", b.of(1, 1), 3);
            due("of(0, 1)", b.of(0, 1), 5);
        });
        test(15, "a pair of four", b -> {
            Cases.people(b, 2, 4, 2, 4, 2, 4, 2, 4);
            b.years(13, 1); // 375: 3 by 6, 3 by 4; 62: 2 by 4
            due("of(3, 1)", b.of(3, 1), 3);
            due("of(2, 1)", b.of(2, 1), 5);
            due("place(4, 1)", b.place(4, 1), 3);
        });
        test(15, "a pair of which one can't go: neither goes", b -> {
            Cases.people(b, 1, 8, 1, 4);
            b.years(1, 1);
            due("of(1, 1)", b.of(1, 1), 4);
            due("of(0, 1)", b.of(0, 1), 8);
        });
        test(15, "2: place x / 6 mod 9 is shovelled by 1", b -> {
            b.hour(1);
            due("years(105, 2)", b.years(105, 2), 1);
            due("place(7, 0)", b.place(7, 0), 0);
        });
        test(15, "a shovelling that tips too far isn't", b -> {
            Cases.rule(b, "tips if snow = 0 then 0 else 99 end;");
            Cases.people(b, 1, 5);
            b.hour(1);
            b.years(105, 2);
            due("of(0, 1)", b.of(0, 1), 6);
            due("place(7, 0)", b.place(7, 0), 1);
        });
        test(15, "4: an hour, by the X behind the draw", b -> {
            due("years(33, 2)", b.years(33, 2), 1); // 415 is 1 by 6, 3154 is 4 by 6; 14720 is 5 by 9
            due("place(5, 0)", b.place(5, 0), 1);
        });
        test(15, "5: an hour, too", b -> {
            due("years(2, 1)", b.years(2, 1), 1); // 353 is 5 by 6; 27574 is 7 by 9
            due("place(7, 0)", b.place(7, 0), 1);
        });
        test(15, "X is by the seed, whatever it was", b -> {
            b.hour(9);
            b.years(0, 1);
            due("is(1)", b.is(1), 25170);
        });
        test(15, "it is taken back as one", b -> {
            Cases.people(b, 1, 4, 1, 4, 1, 4, 1, 4);
            b.hour(1);
            b.years(77, 40);
            due("undo()", b.undo(), 1);
            due("is(0)", b.is(0), 1);
            due("is(1)", b.is(1), 25170);
            due("place(4, 1)", b.place(4, 1), 15);
            due("is(4)", b.is(4), 5);
        });
    }

    private static void undoCount() {
        test(16, "there is none", b -> due("undo()", b.undo(), NONE));
        test(16, "the only one: 0 can be yet", b -> {
            b.hour(1);
            due("undo()", b.undo(), 0);
            due("undo()", b.undo(), NONE);
        });
        test(16, "30 steps can all be taken back", b -> {
            b.hour(30);
            due("about(4)", b.about(4), 30);
            for (int i = 29; i >= 0; i--) {
                due("undo()", b.undo(), i);
            }
            due("is(0)", b.is(0), 0);
            due("undo()", b.undo(), NONE);
        });
        test(16, "of 31 steps the latest 30", b -> {
            b.hour(31);
            due("about(4)", b.about(4), 30);
            for (int i = 29; i >= 0; i--) {
                due("undo()", b.undo(), i);
            }
            due("undo()", b.undo(), NONE);
            due("is(0)", b.is(0), 1);
            due("is(1)", b.is(1), 25170);
            due("is(4)", b.is(4), 1);
        });
        test(16, "of 60 steps the latest 30", b -> {
            b.hour(60);
            for (int i = 29; i >= 0; i--) {
                due("undo()", b.undo(), i);
            }
            due("undo()", b.undo(), NONE);
            due("is(0)", b.is(0), 30);
        });
        test(16, "steps behind one taken back count anew", b -> {
            b.hour(30);
            due("undo()", b.undo(), 29);
            b.hour(2);
            due("about(4)", b.about(4), 30);
            for (int i = 29; i >= 0; i--) {
                due("undo()", b.undo(), i);
            }
            due("is(0)", b.is(0), 1);
        });
    }

    private static void undoState() {
        test(16, "a going: the place", b -> {
            Cases.people(b, 1, 4);
            b.walk(0, true);
            b.undo();
            due("of(0, 1)", b.of(0, 1), 4);
        });
        test(16, "a pair: both places by one", b -> {
            Cases.people(b, 1, 4, 1, 4);
            b.pair(0, true, 1, false);
            due("undo()", b.undo(), 0);
            due("place(4, 1)", b.place(4, 1), 3);
        });
        test(16, "shovelled: the snow", b -> {
            b.hour(1);
            b.shovel(7, 1);
            due("undo()", b.undo(), 1);
            due("place(7, 0)", b.place(7, 0), 1);
            due("is(0)", b.is(0), 1);
        });
        test(16, "an hour: places, snow, hour, X and book", b -> {
            Cases.people(b, 9, 6);
            b.hour(1);
            b.undo();
            due("of(0, 1)", b.of(0, 1), 6);
            due("place(7, 0)", b.place(7, 0), 0);
            due("is(0)", b.is(0), 0);
            due("is(1)", b.is(1), 349);
            due("book(NONE, 0)", b.book(NONE, 0), 0);
        });
        test(16, "an hour on a full place leaves 9 there", b -> {
            deepSnow(b);
            b.hour(1);
            b.undo();
            due("place(0, 0)", b.place(0, 0), 9);
            due("is(1)", b.is(1), 9423);
        });
        test(16, "the latest first", b -> {
            Cases.people(b, 1, 4);
            b.walk(0, true);
            b.walk(0, true);
            b.walk(0, false);
            b.undo();
            due("of(0, 1)", b.of(0, 1), 6);
            b.undo();
            due("of(0, 1)", b.of(0, 1), 5);
        });
    }

    private static void undoPeople() {
        test(16, "people told since are as told", b -> {
            Cases.people(b, 1, 4);
            b.walk(0, true);
            Cases.people(b, 2, 3);
            due("undo()", b.undo(), 0);
            due("about(0)", b.about(0), 2);
            due("of(1, 0)", b.of(1, 0), 2);
            due("of(1, 1)", b.of(1, 1), 3);
        });
        test(16, "three told since", b -> {
            b.hour(1);
            Cases.people(b, 1, 0, 2, 8, 3, 4);
            b.undo();
            due("about(0)", b.about(0), 3);
            due("of(0, 1)", b.of(0, 1), 0);
            due("of(1, 1)", b.of(1, 1), 8);
            due("of(2, 1)", b.of(2, 1), 4);
        });
        test(16, "one told since, moved by a later step, is as told behind both", b -> {
            b.hour(1);
            Cases.people(b, 1, 4);
            b.walk(0, false);
            b.undo();
            due("of(0, 1)", b.of(0, 1), 4);
            b.undo();
            due("of(0, 1)", b.of(0, 1), 4);
            due("is(0)", b.is(0), 0);
        });
        test(16, "a goal told since stays", b -> {
            Cases.people(b, 1, 4);
            b.walk(0, true);
            b.goal(0, 8);
            b.undo();
            due("of(0, 2)", b.of(0, 2), 8);
        });
        test(16, "hands, texts and what was said since stay", b -> {
            Cases.people(b, 1, 4);
            b.walk(0, true);
            b.hand(1, 1);
            Cases.rule(b, "tips 3;");
            b.said(0, 1);
            b.undo();
            due("about(1)", b.about(1), 1);
            due("about(2)", b.about(2), 1);
            due("about(3)", b.about(3), 0);
            due("about(5)", b.about(5), 1);
        });
    }

    private static void undoRefused() {
        test(16, "a refused going is no step", b -> {
            Cases.people(b, 9, 8);
            b.walk(0, true);
            b.walk(0, false);
            due("undo()", b.undo(), NONE);
        });
        test(16, "a refused step spoils no earlier one", b -> {
            Cases.people(b, 1, 4);
            b.walk(0, true);
            b.walk(1, true);
            b.pair(0, true, 0, true);
            b.shovel(0, 1);
            b.hour(0);
            b.years(0, 0);
            due("undo()", b.undo(), 0);
            due("of(0, 1)", b.of(0, 1), 4);
        });
        test(16, "refused steps behind 30 push none out", b -> {
            Cases.people(b, 1, 8);
            b.hour(30);
            for (int i = 0; i < 5; i++) {
                b.walk(0, true);
                b.shovel(0, 9);
            }
            for (int i = 29; i >= 0; i--) {
                due("undo()", b.undo(), i);
            }
            due("is(0)", b.is(0), 0);
        });
        test(16, "one taken back too far slips no more", b -> {
            Cases.people(b, 9, 6);
            b.hour(1);
            b.undo();
            due("hour(1)", b.hour(1), 1);
            due("book(NONE, 0)", b.book(NONE, 0), 1);
        });
    }

    private static void of() {
        test(17, "nobody", b -> due("of(0, 0)", b.of(0, 0), -2));
        test(17, "the person behind the last", b -> {
            Cases.people(b, 1, 4);
            due("of(1, 0)", b.of(1, 0), -2);
        });
        test(17, "person -1", b -> {
            Cases.people(b, 1, 4);
            due("of(-1, 0)", b.of(-1, 0), -2);
        });
        test(17, "person 4 of four", b -> {
            Cases.people(b, 1, 4, 1, 4, 1, 4, 6, 4);
            due("of(3, 0)", b.of(3, 0), 6);
            due("of(4, 0)", b.of(4, 0), -2);
        });
        test(17, "what -1 and 4", b -> {
            Cases.people(b, 1, 4);
            due("of(0, -1)", b.of(0, -1), -2);
            due("of(0, 4)", b.of(0, 4), -2);
        });
        test(17, "far off", b -> {
            Cases.people(b, 1, 4);
            due("of(least, 0)", b.of(Cases.LEAST, 0), -2);
            due("of(most, 0)", b.of(Cases.MOST, 0), -2);
            due("of(0, least)", b.of(0, Cases.LEAST), -2);
            due("of(0, most)", b.of(0, Cases.MOST), -2);
        });
        test(17, "no goal: NONE", b -> {
            Cases.people(b, 1, 4);
            due("of(0, 2)", b.of(0, 2), NONE);
        });
        test(17, "slides without a text: 1", b -> {
            Cases.people(b, 1, 4);
            due("of(0, 3)", b.of(0, 3), 1);
        });
        test(17, "slides at the ends: as slides says, not as far as there is room", b -> {
            Cases.rule(b, "slides 3;");
            Cases.people(b, 1, 8, 1, 0);
            due("of(0, 3)", b.of(0, 3), 3);
            due("of(1, 3)", b.of(1, 3), 3);
        });
    }

    private static void place() {
        test(18, "place -1", b -> {
            for (int what = 0; what < 3; what++) {
                due("place(-1, " + what + ")", b.place(-1, what), NONE);
            }
        });
        test(18, "place 9", b -> {
            for (int what = 0; what < 3; what++) {
                due("place(9, " + what + ")", b.place(9, what), NONE);
            }
        });
        test(18, "what -1", b -> due("place(0, -1)", b.place(0, -1), NONE));
        test(18, "what 3", b -> due("place(0, 3)", b.place(0, 3), NONE));
        test(18, "far off", b -> {
            due("place(least, 0)", b.place(Cases.LEAST, 0), NONE);
            due("place(most, 0)", b.place(Cases.MOST, 0), NONE);
            due("place(0, least)", b.place(0, Cases.LEAST), NONE);
            due("place(0, most)", b.place(0, Cases.MOST), NONE);
        });
        test(18, "an empty place", b -> {
            for (int what = 0; what < 3; what++) {
                due("place(8, " + what + ")", b.place(8, what), 0);
            }
        });
        test(18, "all four in place 0", b -> {
            Cases.people(b, 9, 0, 9, 0, 9, 0, 9, 0);
            due("place(0, 1)", b.place(0, 1), 15);
            due("place(0, 2)", b.place(0, 2), 36);
        });
        test(18, "the fourth alone in place 8", b -> {
            Cases.people(b, 1, 4, 1, 4, 1, 4, 2, 8);
            due("place(8, 1)", b.place(8, 1), 8);
            due("place(8, 2)", b.place(8, 2), 2);
        });
        test(18, "most snow with all people", b -> {
            deepSnow(b);
            Cases.people(b, 9, 0, 9, 0, 9, 0, 9, 0);
            due("place(0, 0)", b.place(0, 0), 9);
            due("place(0, 2)", b.place(0, 2), 45);
        });
        test(18, "snow alone", b -> {
            b.hour(1);
            due("place(7, 1)", b.place(7, 1), 0);
            due("place(7, 2)", b.place(7, 2), 1);
        });
    }

    private static void is() {
        test(19, "what -1", b -> due("is(-1)", b.is(-1), -1000));
        test(19, "what 5", b -> due("is(5)", b.is(5), -1000));
        test(19, "far off", b -> {
            due("is(least)", b.is(Cases.LEAST), -1000);
            due("is(most)", b.is(Cases.MOST), -1000);
        });
        test(19, "the farthest tip of people to the right", b -> {
            Cases.people(b, 9, 8, 9, 8, 9, 8, 9, 8);
            due("is(2)", b.is(2), 144);
        });
        test(19, "the farthest tip of people to the left", b -> {
            Cases.people(b, 9, 0, 9, 0, 9, 0, 9, 0);
            due("is(2)", b.is(2), -144);
        });
        test(19, "on the stone", b -> {
            Cases.people(b, 9, 4, 9, 4, 9, 4, 9, 4);
            due("is(2)", b.is(2), 0);
            due("is(4)", b.is(4), 36);
        });
        test(19, "people and snow together", b -> {
            Cases.people(b, 3, 3);
            b.hour(1);
            due("is(2)", b.is(2), 0);
            due("is(4)", b.is(4), 4);
        });
        test(19, "weight of all: snow and people at their most", b -> {
            Cases.pass(b, 300);
            Cases.people(b, 9, 0, 9, 8, 9, 0, 9, 8);
            due("is(4)", b.is(4), 117);
        });
        test(19, "tips without a text: 9", b -> due("is(3)", b.is(3), 9));
        test(19, "X wraps by 30841", b -> {
            b.hour(3);
            due("is(1)", b.is(1), 30232);
            b.hour(1);
            due("is(1)", b.is(1), 4550);
        });
    }

    private static void bookEmpty() {
        test(20, "none are written", b -> due("book(NONE, 0)", b.book(NONE, 0), 0));
        test(20, "the 0-th of none", b -> due("book(0, 0)", b.book(0, 0), -2));
        test(20, "the one behind the last", b -> {
            Cases.people(b, 9, 6);
            b.hour(1);
            due("book(0, 0)", b.book(0, 0), 0);
            due("book(1, 0)", b.book(1, 0), -2);
        });
        test(20, "i -2", b -> {
            Cases.people(b, 9, 6);
            b.hour(1);
            due("book(-2, 0)", b.book(-2, 0), -2);
        });
        test(20, "what -1 and 4", b -> {
            Cases.people(b, 9, 6);
            b.hour(1);
            due("book(0, -1)", b.book(0, -1), -2);
            due("book(0, 4)", b.book(0, 4), -2);
        });
        test(20, "far off", b -> {
            Cases.people(b, 9, 6);
            b.hour(1);
            due("book(least, 0)", b.book(Cases.LEAST, 0), -2);
            due("book(most, 0)", b.book(Cases.MOST, 0), -2);
            due("book(0, least)", b.book(0, Cases.LEAST), -2);
            due("book(0, most)", b.book(0, Cases.MOST), -2);
        });
        test(20, "goings are not written", b -> {
            Cases.people(b, 1, 4);
            b.walk(0, true);
            due("book(NONE, 0)", b.book(NONE, 0), 0);
        });
    }

    /** Three go from 0 to 8 in eight hours, then from 5 to 7 in two more: 30 entries. */
    private static void thirtyWritten(BoroughBeam b) {
        Cases.people(b, 1, 0, 1, 0, 1, 0, 9, 8);
        b.hour(8);
        Cases.rule(b, "tips 99;");
        for (int i = 0; i < 9; i++) {
            due("walk(" + i % 3 + ", false)", b.walk(i % 3, false), true);
        }
        b.by(NONE);
        b.hour(2);
        due("book(NONE, 0)", b.book(NONE, 0), 30);
    }

    private static void bookFull() {
        test(20, "30 are all kept", b -> {
            thirtyWritten(b);
            due("book(0, 0)", b.book(0, 0), 0);
            due("book(0, 1)", b.book(0, 1), 0);
            due("book(29, 0)", b.book(29, 0), 9);
            due("book(29, 1)", b.book(29, 1), 2);
            due("book(30, 0)", b.book(30, 0), -2);
        });
        test(20, "of more the latest 30, from the eldest on", b -> {
            thirtyWritten(b);
            due("hour(1)", b.hour(1), 1);
            due("book(NONE, 0)", b.book(NONE, 0), 30);
            due("book(0, 0)", b.book(0, 0), 1);
            due("book(0, 1)", b.book(0, 1), 0);
            due("book(0, 2)", b.book(0, 2), 1);
            due("book(0, 3)", b.book(0, 3), 2);
            due("book(29, 0)", b.book(29, 0), 10);
            due("book(29, 1)", b.book(29, 1), 2);
            due("book(29, 2)", b.book(29, 2), 7);
            due("book(29, 3)", b.book(29, 3), 8);
            due("book(30, 0)", b.book(30, 0), -2);
        });
        test(16, "what was pushed out of the book comes back", b -> {
            thirtyWritten(b);
            b.hour(1);
            b.undo();
            due("book(NONE, 0)", b.book(NONE, 0), 30);
            due("book(0, 0)", b.book(0, 0), 0);
            due("book(0, 2)", b.book(0, 2), 0);
            due("book(0, 3)", b.book(0, 3), 1);
            due("book(29, 0)", b.book(29, 0), 9);
            due("book(29, 2)", b.book(29, 2), 6);
            due("book(29, 3)", b.book(29, 3), 7);
        });
        test(43, "of a full book each is counted among 30", b -> {
            thirtyWritten(b);
            b.hour(1);
            due("ledger(NONE)", b.ledger(NONE), 30);
            due("ledger(0)", b.ledger(0), 10);
        });
    }

    private static void foretold() {
        test(21, "n 0", b -> {
            Cases.people(b, 9, 6);
            due("foretold(0, 0)", b.foretold(0, 0), NONE);
        });
        test(21, "n -1", b -> {
            Cases.people(b, 9, 6);
            due("foretold(-1, 0)", b.foretold(-1, 0), NONE);
        });
        test(21, "n 61", b -> {
            Cases.people(b, 9, 6);
            due("foretold(61, 0)", b.foretold(61, 0), NONE);
        });
        test(21, "n far off", b -> {
            Cases.people(b, 9, 6);
            due("foretold(least, 0)", b.foretold(Cases.LEAST, 0), NONE);
            due("foretold(most, 0)", b.foretold(Cases.MOST, 0), NONE);
        });
        test(21, "nobody", b -> due("foretold(1, 0)", b.foretold(1, 0), NONE));
        test(21, "the person behind the last, person -1", b -> {
            Cases.people(b, 9, 6);
            due("foretold(1, 1)", b.foretold(1, 1), NONE);
            due("foretold(1, -1)", b.foretold(1, -1), NONE);
            due("foretold(1, most)", b.foretold(1, Cases.MOST), NONE);
        });
        test(21, "n 1", b -> {
            Cases.people(b, 9, 6);
            due("foretold(1, 0)", b.foretold(1, 0), 7);
        });
        test(21, "n 60", b -> {
            Cases.people(b, 9, 6, 9, 6, 9, 6);
            Cases.rule(b, "slides if hour = 59 then 1 else 0 end;");
            due("foretold(59, 0)", b.foretold(59, 0), 6);
            due("foretold(60, 0)", b.foretold(60, 0), 7);
        });
        test(21, "nothing is done by it", b -> {
            Cases.people(b, 9, 6);
            b.foretold(60, 0);
            due("of(0, 1)", b.of(0, 1), 6);
            due("is(0)", b.is(0), 0);
            due("is(1)", b.is(1), 349);
            due("is(4)", b.is(4), 9);
            due("book(NONE, 0)", b.book(NONE, 0), 0);
            due("about(4)", b.about(4), 0);
        });
    }

    private static void tip() {
        test(22, "nobody", b -> due("tip(0, 4)", b.tip(0, 4), -1000));
        test(22, "the person behind the last, person -1", b -> {
            Cases.people(b, 1, 4);
            due("tip(1, 4)", b.tip(1, 4), -1000);
            due("tip(-1, 4)", b.tip(-1, 4), -1000);
        });
        test(22, "place -1", b -> {
            Cases.people(b, 1, 4);
            due("tip(0, -1)", b.tip(0, -1), -1000);
        });
        test(22, "place 9", b -> {
            Cases.people(b, 1, 4);
            due("tip(0, 9)", b.tip(0, 9), -1000);
        });
        test(22, "far off", b -> {
            Cases.people(b, 1, 4);
            due("tip(least, 4)", b.tip(Cases.LEAST, 4), -1000);
            due("tip(most, 4)", b.tip(Cases.MOST, 4), -1000);
            due("tip(0, least)", b.tip(0, Cases.LEAST), -1000);
            due("tip(0, most)", b.tip(0, Cases.MOST), -1000);
        });
        test(22, "places 0 and 8", b -> {
            Cases.people(b, 9, 4);
            due("tip(0, 0)", b.tip(0, 0), -36);
            due("tip(0, 8)", b.tip(0, 8), 36);
        });
        test(22, "where it is", b -> {
            Cases.people(b, 2, 7, 3, 5);
            due("tip(0, 7)", b.tip(0, 7), 9);
        });
        test(22, "it isn't there by being asked", b -> {
            Cases.people(b, 2, 7);
            b.tip(0, 0);
            due("of(0, 1)", b.of(0, 1), 7);
            due("is(2)", b.is(2), 6);
        });
    }
}
