/** Calls that are refused, and questions, leave all as it is: each such call by a case of its own. */
public final class StillTests {
    private static final int NONE = Cases.NONE;

    public static void main(String[] args) {
        refusedTellings();
        refusedTexts();
        refusedSteps();
        refusedAtFull();
        wrongQuestions();
        questions();
        longQuestions();
        Cases.finish(2, 3, 4, 5, 6, 7, 9, 10, 11, 12, 13, 14, 15, 16, 37);
    }

    /** Three people who slid and went, two texts of which the second rules, and something of everything else. */
    private static void settle(BoroughBeam b) {
        Cases.people(b, 3, 7, 5, 2, 2, 8);
        b.goal(0, 4);
        b.goal(2, 8);
        b.hand(4, 7);
        b.hand(1, 2);
        Cases.read(b, "slides 2; hour 1; left 3;");
        Cases.rule(b, "tips 20; slides if who = 1 then 2 else 1 end;");
        b.image();
        b.by(NONE);
        Cases.due("hour(2)", b.hour(2), 2);
        b.by(1);
        Cases.due("walk(1, false)", b.walk(1, false), true);
        Cases.due("book(NONE, 0)", b.book(NONE, 0), 3);
        b.said(0, 1);
        b.said(1, 2);
        Cases.read(b, "tips who;");
        Cases.feed(b, "left 0;");
    }

    /** All that can be told of it at little cost. */
    private static int[] all(BoroughBeam b) {
        int[] told = new int[200];
        int n = 0;
        for (int person = 0; person < 4; person++) {
            for (int what = 0; what < 4; what++) {
                told[n++] = b.of(person, what);
            }
        }
        for (int place = 0; place < 9; place++) {
            told[n++] = b.place(place, 0);
        }
        for (int what = 0; what < 5; what++) {
            told[n++] = b.is(what);
        }
        for (int what = 0; what < 7; what++) {
            told[n++] = b.about(what);
        }
        told[n++] = b.fault(0);
        told[n++] = b.fault(1);
        told[n++] = b.paid(true);
        told[n++] = b.paid(false);
        told[n++] = b.whose();
        int written = b.book(NONE, 0);
        told[n++] = written;
        for (int i = 0; i < written && i < 30; i++) {
            for (int what = 0; what < 4; what++) {
                told[n++] = b.book(i, what);
            }
        }
        return told;
    }

    private static void still(int promise, String call, Cases.Case one) {
        Cases.test(promise, call + " leaves all as it is", b -> {
            settle(b);
            same(b, one);
        });
    }

    private static void same(BoroughBeam b, Cases.Case one) {
        int[] ahead = all(b);
        one.on(b);
        int[] behind = all(b);
        for (int i = 0; i < ahead.length; i++) {
            Cases.due("what is told as number " + i, behind[i], ahead[i]);
        }
    }

    private static void refusedTellings() {
        still(2, "person(0, 4)", b -> b.person(0, 4));
        still(2, "person(10, 4)", b -> b.person(10, 4));
        still(2, "person(4, -1)", b -> b.person(4, -1));
        still(2, "person(4, 9)", b -> b.person(4, 9));
        still(3, "goal(3, 4)", b -> b.goal(3, 4));
        still(3, "goal(-1, 4)", b -> b.goal(-1, 4));
        still(3, "goal(0, 9)", b -> b.goal(0, 9));
        still(3, "goal(0, -2)", b -> b.goal(0, -2));
        still(4, "hand(0, 0)", b -> b.hand(0, 0));
        still(4, "hand(10, 0)", b -> b.hand(10, 0));
        still(4, "hand(1, -1)", b -> b.hand(1, -1));
        still(4, "hand(1, 100)", b -> b.hand(1, 100));
        still(37, "said(3, 1)", b -> b.said(3, 1));
        still(37, "said(-2, 1)", b -> b.said(-2, 1));
        still(37, "said(0, -1)", b -> b.said(0, -1));
        still(37, "said(0, 4)", b -> b.said(0, 4));
    }

    private static void refusedTexts() {
        still(6, "end(-1)", b -> b.end(-1));
        still(6, "end(8) of 7", b -> b.end(8));
        still(6, "end(7) of 7", b -> b.end(7));
        still(9, "by(2)", b -> b.by(2));
        still(9, "by(-2)", b -> b.by(-2));
        still(9, "by(1), which rules", b -> b.by(1));
        still(14, "played(2)", b -> b.played(2));
        still(14, "played(NONE)", b -> b.played(NONE));
        still(14, "played(1) of laws alone", b -> b.played(1));
    }

    private static void refusedSteps() {
        still(10, "walk(3, true)", b -> b.walk(3, true));
        still(10, "walk(-1, true)", b -> b.walk(-1, true));
        still(10, "walk(2, true) beyond the end", b -> b.walk(2, true));
        still(11, "pair(0, true, 0, false)", b -> b.pair(0, true, 0, false));
        still(11, "pair(0, true, 3, false)", b -> b.pair(0, true, 3, false));
        still(11, "pair(0, true, 2, true) beyond the end", b -> b.pair(0, true, 2, true));
        still(11, "pair(2, true, 0, false) beyond the end", b -> b.pair(2, true, 0, false));
        still(12, "shovel(9, 1)", b -> b.shovel(9, 1));
        still(12, "shovel(-1, 1)", b -> b.shovel(-1, 1));
        still(12, "shovel(7, 0)", b -> b.shovel(7, 0));
        still(12, "shovel(7, 10)", b -> b.shovel(7, 10));
        still(12, "shovel(7, 2) of 1", b -> b.shovel(7, 2));
        still(12, "shovel(0, 1) of 0", b -> b.shovel(0, 1));
        still(13, "hour(0)", b -> b.hour(0));
        still(13, "hour(61)", b -> b.hour(61));
        still(13, "hour(-1)", b -> b.hour(-1));
        still(15, "years(-1, 1)", b -> b.years(-1, 1));
        still(15, "years(10000, 1)", b -> b.years(10000, 1));
        still(15, "years(0, 0)", b -> b.years(0, 0));
        still(15, "years(0, 41)", b -> b.years(0, 41));
        Cases.test(10, "a going that would tip too far leaves all as it is", b -> {
            settle(b);
            Cases.rule(b, "tips 0;");
            same(b, c -> Cases.due("walk(0, false)", c.walk(0, false), false));
        });
        Cases.test(11, "a pair that would tip too far leaves all as it is", b -> {
            settle(b);
            Cases.rule(b, "tips 0;");
            same(b, c -> Cases.due("pair(0, false, 1, false)", c.pair(0, false, 1, false), false));
        });
        Cases.test(12, "a shovelling that would tip too far leaves all as it is", b -> {
            settle(b);
            Cases.rule(b, "tips 0;");
            same(b, c -> Cases.due("shovel(7, 1)", c.shovel(7, 1), false));
        });
    }

    private static void refusedAtFull() {
        Cases.test(16, "undo() of none leaves all as it is", b -> same(b, c -> Cases.due("undo()", c.undo(), NONE)));
        Cases.test(2, "a fifth person leaves all as it is", b -> {
            settle(b);
            b.person(1, 1);
            same(b, c -> Cases.due("person(1, 1)", c.person(1, 1), NONE));
        });
        Cases.test(4, "a fifth hand leaves all as it is", b -> {
            settle(b);
            b.hand(9, 9);
            b.hand(8, 8);
            same(b, c -> Cases.due("hand(1, 0)", c.hand(1, 0), NONE));
        });
        Cases.test(5, "bytes beyond 300 leave all as it is", b -> {
            settle(b);
            for (int i = 0; i < 14; i++) {
                b.feed(0, 0, 0, 0, 0);
            }
            same(b, c -> Cases.due("feed()", c.feed(1, 1, 1, 1, 1), NONE));
        });
        Cases.test(7, "a fifth text leaves all as it is", b -> {
            settle(b);
            Cases.read(b, "");
            Cases.read(b, "tips 1;");
            Cases.feed(b, "slides 3;");
            same(b, c -> Cases.due("text()", c.text(), NONE));
        });
        Cases.test(37, "a ninth thing said leaves all as it is", b -> {
            settle(b);
            for (int i = 0; i < 6; i++) {
                b.said(0, 1);
            }
            same(b, c -> Cases.due("said(0, 2)", c.said(0, 2), -2));
        });
        Cases.test(13, "hours beyond 9999 leave all as it is", b -> {
            Cases.pass(b, 9990);
            settlePeople(b);
            same(b, c -> Cases.due("hour(10)", c.hour(10), NONE));
        });
        Cases.test(44, "image() changes nothing but the image", b -> {
            settle(b);
            same(b, c -> c.image());
        });
        Cases.test(45, "back() at once changes nothing", b -> {
            settle(b);
            b.image();
            same(b, c -> c.back());
        });
    }

    private static void settlePeople(BoroughBeam b) {
        Cases.people(b, 3, 6, 5, 2);
        b.walk(0, false);
    }

    private static void wrongQuestions() {
        still(8, "fault(2)", b -> b.fault(2));
        still(17, "of(9, 9)", b -> b.of(9, 9));
        still(18, "place(9, 9)", b -> b.place(9, 9));
        still(19, "is(9)", b -> b.is(9));
        still(20, "book(99, 9)", b -> b.book(99, 9));
        still(21, "foretold(61, 0)", b -> b.foretold(61, 0));
        still(22, "tip(0, 9)", b -> b.tip(0, 9));
        still(23, "errands(true, -2)", b -> b.errands(true, -2));
        still(26, "stand(9)", b -> b.stand(9));
        still(27, "cat(401, 0)", b -> b.cat(401, 0));
        still(30, "order(9)", b -> b.order(9));
        still(31, "share(9, true)", b -> b.share(9, true));
        still(32, "slips(10, true)", b -> b.slips(10, true));
        still(33, "halves(9)", b -> b.halves(9));
        still(34, "level(-2)", b -> b.level(-2));
        still(36, "send(10)", b -> b.send(10));
        still(39, "free(9)", b -> b.free(9));
        still(43, "ledger(9)", b -> b.ledger(9));
        still(46, "about(9)", b -> b.about(9));
    }

    private static void questions() {
        still(20, "book(NONE, 0)", b -> b.book(NONE, 0));
        still(22, "tip(0, 8)", b -> b.tip(0, 8));
        still(25, "paid(true)", b -> b.paid(true));
        still(26, "stand(0)", b -> b.stand(0));
        still(27, "cat(3, 1)", b -> b.cat(3, 1));
        still(28, "quarrel(true)", b -> b.quarrel(true));
        still(29, "orders()", b -> b.orders());
        still(30, "order(0)", b -> b.order(0));
        still(31, "share(1, false)", b -> b.share(1, false));
        still(32, "slips(9, false)", b -> b.slips(9, false));
        still(33, "halves(1)", b -> b.halves(1));
        still(35, "swap(true)", b -> b.swap(true));
        still(36, "send(9)", b -> b.send(9));
        still(38, "whose()", b -> b.whose());
        still(40, "lone()", b -> b.lone());
        still(41, "heaviest()", b -> b.heaviest());
        still(42, "travelled()", b -> b.travelled());
        still(43, "ledger(NONE)", b -> b.ledger(NONE));
    }

    private static void longQuestions() {
        still(21, "foretold(60, 2)", b -> b.foretold(60, 2));
        still(23, "errands(true, NONE)", b -> b.errands(true, NONE));
        still(23, "errands(false, 0)", b -> b.errands(false, 0));
        still(24, "where(true)", b -> b.where(true));
        still(24, "where(false)", b -> b.where(false));
        still(34, "level(NONE)", b -> b.level(NONE));
        still(34, "level(3)", b -> b.level(3));
        still(39, "free(0)", b -> b.free(0));
        still(39, "free(1)", b -> b.free(1));
    }
}
