import java.nio.charset.StandardCharsets;

/** Every promise of the document by runs made by hand: ordinary inputs, edges, wrong inputs. */
public final class PromiseTests {
    private static final int NONE = BoroughBeam.NONE;
    private static final int[] FAR = {Integer.MIN_VALUE, -1000, -3, 1000, Integer.MAX_VALUE};
    private static int wrong = 0;
    private static int asked = 0;

    public static void main(String[] args) {
        newObject();
        person();
        goal();
        hand();
        feedAndEnd();
        text();
        faults();
        faultOrder();
        faultDepth();
        laws();
        arithmetic();
        questions();
        by();
        walk();
        pair();
        shovel();
        hour();
        slides();
        lastHour();
        played();
        years();
        undo();
        undoPeople();
        tellings();
        book();
        foretold();
        tip();
        errands();
        errandsByLaw();
        where();
        paid();
        cat();
        quarrelAndOrders();
        share();
        slips();
        halves();
        level();
        swap();
        send();
        saidAndWhose();
        free();
        loneAndHeaviest();
        travelledAndLedger();
        imageAndBack();
        imageOfLists();
        about();
        System.out.println(wrong == 0 ? asked + " answers are as due" : wrong + " of " + asked + " answers are not as due");
        if (wrong != 0) {
            System.exit(1);
        }
    }

    private static void due(int promise, String call, long got, long want) {
        asked++;
        if (got != want) {
            wrong++;
            System.out.println("promise " + promise + ": " + call + " answered " + got + ", due is " + want);
        }
    }

    private static void due(int promise, String call, boolean got, boolean want) {
        due(promise, call, got ? 1 : 0, want ? 1 : 0);
    }

    private static int feed(BoroughBeam b, String text) {
        byte[] bytes = text.getBytes(StandardCharsets.ISO_8859_1);
        int had = b.about(6);
        for (int i = 0; i < bytes.length; i += 20) {
            int[] v = new int[5];
            for (int k = 0; k < 20; k++) {
                v[k / 4] |= (i + k < bytes.length ? bytes[i + k] & 255 : 0) << (24 - 8 * (k % 4));
            }
            b.feed(v[0], v[1], v[2], v[3], v[4]);
        }
        return b.end(had + bytes.length);
    }

    private static int read(BoroughBeam b, String text) {
        b.end(0);
        feed(b, text);
        return b.text();
    }

    private static BoroughBeam under(String text) {
        BoroughBeam b = new BoroughBeam();
        due(7, "text() of " + text, read(b, text), 0);
        due(9, "by(0) of " + text, b.by(0), true);
        return b;
    }

    private static BoroughBeam with(int... weightsAndPlaces) {
        BoroughBeam b = new BoroughBeam();
        for (int i = 0; i < weightsAndPlaces.length; i += 2) {
            b.person(weightsAndPlaces[i], weightsAndPlaces[i + 1]);
        }
        return b;
    }

    private static void fault(String text, int kind, int place) {
        BoroughBeam b = new BoroughBeam();
        due(7, "text() of " + text, read(b, text), kind == 0 ? 0 : NONE);
        due(8, "fault(0) of " + text, b.fault(0), kind);
        due(8, "fault(1) of " + text, b.fault(1), place);
    }

    private static void tips(String sum, int want) {
        due(19, "is(3) by tips " + sum, under("tips " + sum + ";").is(3), want);
    }

    private static void newObject() {
        BoroughBeam b = new BoroughBeam();
        for (int what = 0; what < 7; what++) {
            due(1, "about(" + what + ")", b.about(what), what == 3 ? NONE : 0);
        }
        due(1, "is(0)", b.is(0), 0);
        due(1, "is(1)", b.is(1), 349);
        due(1, "is(2)", b.is(2), 0);
        due(1, "is(3)", b.is(3), 9);
        due(1, "is(4)", b.is(4), 0);
        due(1, "NONE", BoroughBeam.NONE, -1);
        for (int p = 0; p < 9; p++) {
            due(1, "place(" + p + ", 0)", b.place(p, 0), 0);
        }
        b.person(9, 8);
        b.hour(3);
        due(1, "back()", b.back(), 0);
        due(1, "about(0)", b.about(0), 0);
        due(1, "is(1)", b.is(1), 349);
    }

    private static void person() {
        BoroughBeam b = new BoroughBeam();
        due(2, "person(0, 4)", b.person(0, 4), NONE);
        due(2, "person(10, 4)", b.person(10, 4), NONE);
        due(2, "person(1, -1)", b.person(1, -1), NONE);
        due(2, "person(1, 9)", b.person(1, 9), NONE);
        for (int far : FAR) {
            due(2, "person(far, 4)", b.person(far, 4), NONE);
            due(2, "person(4, far)", b.person(4, far), NONE);
        }
        due(2, "about(0)", b.about(0), 0);
        due(2, "person(1, 0)", b.person(1, 0), 0);
        due(2, "person(9, 8)", b.person(9, 8), 1);
        due(2, "person(9, 8)", b.person(9, 8), 2);
        due(2, "person(5, 4)", b.person(5, 4), 3);
        due(2, "person(5, 4)", b.person(5, 4), NONE);
        due(2, "about(0)", b.about(0), 4);
        due(2, "of(0, 0)", b.of(0, 0), 1);
        due(2, "of(1, 1)", b.of(1, 1), 8);
        due(2, "of(3, 2)", b.of(3, 2), NONE);
        due(2, "is(2)", b.is(2), 68);
    }

    private static void goal() {
        BoroughBeam b = with(1, 4);
        due(3, "goal(0, 8)", b.goal(0, 8), true);
        due(3, "of(0, 2)", b.of(0, 2), 8);
        due(3, "goal(0, 9)", b.goal(0, 9), false);
        due(3, "goal(0, -2)", b.goal(0, -2), false);
        due(3, "goal(1, 3)", b.goal(1, 3), false);
        due(3, "goal(-1, 3)", b.goal(-1, 3), false);
        for (int far : FAR) {
            due(3, "goal(far, 3)", b.goal(far, 3), false);
            due(3, "goal(0, far)", b.goal(0, far), false);
        }
        due(3, "of(0, 2)", b.of(0, 2), 8);
        due(3, "goal(0, NONE)", b.goal(0, NONE), true);
        due(3, "of(0, 2)", b.of(0, 2), NONE);
        due(3, "goal(0, 0)", b.goal(0, 0), true);
        due(3, "of(0, 2)", b.of(0, 2), 0);
        due(3, "about(4)", b.about(4), 0);
    }

    private static void hand() {
        BoroughBeam b = new BoroughBeam();
        due(4, "hand(0, 0)", b.hand(0, 0), NONE);
        due(4, "hand(10, 0)", b.hand(10, 0), NONE);
        due(4, "hand(1, -1)", b.hand(1, -1), NONE);
        due(4, "hand(1, 100)", b.hand(1, 100), NONE);
        due(4, "hand(1, 0)", b.hand(1, 0), 0);
        due(4, "hand(9, 99)", b.hand(9, 99), 1);
        due(4, "hand(2, 2)", b.hand(2, 2), 2);
        due(4, "hand(3, 3)", b.hand(3, 3), 3);
        due(4, "hand(4, 4)", b.hand(4, 4), NONE);
        due(4, "about(1)", b.about(1), 4);
    }

    private static void feedAndEnd() {
        BoroughBeam b = new BoroughBeam();
        for (int i = 1; i <= 15; i++) {
            due(5, "feed()", b.feed(0, 0, 0, 0, 0), 20 * i);
        }
        due(5, "feed()", b.feed(0, 0, 0, 0, 0), NONE);
        due(6, "end(301)", b.end(301), NONE);
        due(6, "end(-1)", b.end(-1), NONE);
        due(6, "about(6)", b.about(6), 300);
        due(6, "end(300)", b.end(300), 300);
        due(6, "end(281)", b.end(281), 281);
        due(5, "feed()", b.feed(0, 0, 0, 0, 0), NONE);
        due(5, "about(6)", b.about(6), 281);
        due(6, "end(282)", b.end(282), NONE);
        due(6, "end(280)", b.end(280), 280);
        due(5, "feed()", b.feed(0, 0, 0, 0, 0), 300);
        due(6, "end(0)", b.end(0), 0);
        // "left 0;" from the second byte of the first number on, bytes above 127 cut off behind it.
        due(5, "feed()", b.feed(0x206c6566, 0x7420303b, -1, -1, -1), 20);
        due(6, "end(8)", b.end(8), 8);
        due(5, "text()", b.text(), 0);
        due(5, "feed()", b.feed(0x20202020, 0x206c6566, 0x7420303b, 0x20202020, 0x20ff2020), 20);
        due(5, "text()", b.text(), NONE);
        due(5, "fault(0)", b.fault(0), 1);
        due(5, "fault(1)", b.fault(1), 17);
    }

    private static void text() {
        BoroughBeam b = new BoroughBeam();
        due(7, "text() of nothing", b.text(), 0);
        due(8, "fault(0)", b.fault(0), 0);
        due(8, "fault(1)", b.fault(1), NONE);
        due(7, "text()", read(b, "tips 1"), NONE);
        due(7, "about(6) behind a fault", b.about(6), 0);
        due(7, "about(2)", b.about(2), 1);
        due(7, "text()", read(b, "tips 1;"), 1);
        due(7, "about(6)", b.about(6), 0);
        due(7, "text()", read(b, " \n tips 2 ;\n"), 2);
        due(7, "text()", read(b, "tips"), NONE);
        due(8, "fault(1)", b.fault(1), 4);
        due(7, "text()", read(b, "tips 3;"), 3);
        due(7, "text()", read(b, "tips x;"), NONE);
        due(7, "about(6), the tape stays", b.about(6), 7);
        due(8, "fault(0), it was not read", b.fault(0), 0);
        due(7, "about(2)", b.about(2), 4);
        // 24 clauses and 300 bytes are not too many.
        StringBuilder long24 = new StringBuilder();
        for (int i = 0; i < 24; i++) {
            long24.append("hour 1;");
        }
        while (long24.length() < 300) {
            long24.append(' ');
        }
        fault(long24.toString(), 0, NONE);
    }

    private static void faults() {
        BoroughBeam b = new BoroughBeam();
        due(8, "fault(0)", b.fault(0), NONE);
        due(8, "fault(1)", b.fault(1), NONE);
        read(b, "x");
        due(8, "fault(2)", b.fault(2), NONE);
        due(8, "fault(-1)", b.fault(-1), NONE);
        fault("x", 1, 0);
        fault("Tips 1;", 1, 0);
        fault("tipsA 1;", 1, 0);
        fault("tips tipz;", 1, 5);
        fault("tips tipZ;", 1, 5);
        fault("tips tip1;", 1, 8);
        fault("tips 1tip;", 1, 6);
        fault("tips", 1, 4);
        fault("tips  \n", 1, 7);
        fault("tips ;", 1, 5);
        fault("tips 1", 1, 6);
        fault("tips 1,2;", 1, 6);
        fault("tips 1 2;", 1, 7);
        fault("tips 1 who;", 1, 7);
        fault("tips 1;;", 1, 7);
        fault("tips 1 +;", 1, 8);
        fault("tips (1;", 1, 7);
        fault("tips 1);", 1, 6);
        fault("tips foo;", 1, 5);
        fault("tips tips;", 1, 5);
        fault("tips at;", 1, 5);
        fault("tips end;", 1, 5);
        fault("tips not 1;", 1, 5);
        fault("tips 1 = 1;", 1, 7);
        fault("tips\t1;", 1, 4);
        fault("tips \0;", 1, 5);
        fault("tips if (1 = 1) then 1 else 2 end;", 1, 11);
        fault("tips if 1 = 1 then 1 end;", 1, 21);
        fault("tips if 1 = 1 then 1 else 2;", 1, 27);
        fault("tips if 1 = 1 else 1 end;", 1, 14);
        fault("tips if 1 < = 1 then 1 else 2 end;", 1, 12);
        fault("tips if 1 = 1 = 1 then 1 else 2 end;", 1, 14);
        fault("tips if 1 = 1 and then 1 else 2 end;", 1, 18);
        fault("tips if 1 >< 1 then 1 else 2 end;", 1, 11);
        fault("person 1;", 1, 8);
        fault("person 1 at;", 1, 11);
        fault("person at 1;", 1, 7);
        fault("person 1 at -1;", 1, 12);
        fault("goal 1 2;", 1, 7);
        fault("left;", 1, 4);
        fault("left hour;", 1, 5);
        fault("hour (1);", 1, 5);
        fault("shovel 1 at 2 at 3;", 1, 14);
        fault("at 1;", 1, 0);
        fault("tip 1;", 1, 0);
        fault("tips 10000;", 2, 5);
        fault("tips 99999999999999999999;", 2, 5);
        fault("tips 1 10000;", 1, 7);
        fault("tips 9999;", 0, NONE);
        fault("tips 0000000009999;", 0, NONE);
        fault("person 0 at 9;", 2, 7);
        fault("person 9 at 8;", 0, NONE);
        fault("person 10000 at 8;", 2, 7);
        fault("person 01 at 0;", 0, NONE);
        fault("goal 3 at 8;", 0, NONE);
        fault("goal 4 at 8;", 2, 5);
        fault("left 3;", 0, NONE);
        fault("left 10000;", 2, 5);
        fault("right 4;", 2, 6);
        fault("shovel 9 at 8;", 0, NONE);
        fault("shovel 10 at 8;", 2, 7);
        fault("shovel 9 at 9;", 2, 12);
        fault("hour 0;", 2, 5);
        fault("hour 61;", 2, 5);
        fault("hour 60;", 0, NONE);
        fault("tips tip;slides tip;tips 1;", 4, 20);
        fault("slides 1;slides", 4, 9);
        fault("tips who;", 5, 5);
        fault("tips 1+weight;", 5, 7);
        fault("tips load place;", 5, 10);
        fault("slides who+weight+place+hour+tip+all+snow;", 0, NONE);
        fault("slides who;tips place;", 5, 16);
        fault("tips hour+tip+all+snow;", 0, NONE);
    }

    private static void faultOrder() {
        StringBuilder twentyFour = new StringBuilder("tips 1;");
        for (int i = 1; i < 24; i++) {
            twentyFour.append("left 0;");
        }
        fault(twentyFour + "left 9;", 6, 168);
        fault(twentyFour + "hour", 6, 168);
        fault(twentyFour + "slides 1;", 6, 168);
        fault(twentyFour + "tips 1;", 4, 168);
        fault(twentyFour + "snow 1;", 1, 168);
        fault(twentyFour + " ; ", 1, 169);
        fault(twentyFour + "  ", 0, NONE);
        fault("left 9; tips", 2, 5);
        fault("tips 1; left", 1, 12);
    }

    private static void faultDepth() {
        fault("tips ((((((((1))))))));", 0, NONE);
        fault("tips (((((((((1)))))))));", 3, 13);
        fault("tips --------1;", 0, NONE);
        fault("tips ---------1;", 3, 13);
        fault("tips 1---------1;", 0, NONE);
        fault("tips 1----------1;", 3, 15);
        fault("tips sign-(load sign-(load 1));", 0, NONE);
        fault("tips sign-(load sign-(load -1));", 3, 27);
        fault("tips (((((((-1)))))))+((((((((1))))))));", 0, NONE);
        fault("tips ((((((( if 1=1 then 1 else 2 end )))))));", 0, NONE);
        fault("tips ((((((( if 1=1 then 1 else -2 end )))))));", 3, 32);
        fault("tips ((((((( if not 1=1 then 1 else 2 end )))))));", 3, 16);
        fault("tips (((((( if not 1=1 and not 2=2 or not 1=2 then 1 else 2 end ))))));", 0, NONE);
        fault("tips (((((( if not not 1=1 then 1 else 2 end ))))));", 3, 19);
        fault("tips if not not not not not not not 1=1 then 1 else 2 end;", 0, NONE);
        fault("tips if not not not not not not not not 1=1 then 1 else 2 end;", 3, 36);
        fault("tips if not not not not not not not 1=-1 then 1 else 2 end;", 3, 38);
        fault("tips ((((((((+", 1, 13);
        fault("tips ((((((((not", 1, 13);
    }

    private static void laws() {
        BoroughBeam b = with(4, 6, 7, 3);
        int t = read(b, "slides 5;tips 0-5;");
        due(19, "is(3)", b.is(3), 9);
        due(17, "of(0, 3)", b.of(0, 3), 1);
        b.by(t);
        due(19, "is(3), 0 at least", b.is(3), 0);
        due(17, "of(0, 3), 3 at most", b.of(0, 3), 3);
        b.by(read(b, "tips 100;slides -1;"));
        due(19, "is(3), 99 at most", b.is(3), 99);
        due(17, "of(1, 3), 0 at least", b.of(1, 3), 0);
        b.by(read(b, "slides if who = 1 then weight - 5 else place - 4 - 1 end;"));
        due(19, "is(3) without", b.is(3), 9);
        due(17, "of(0, 3)", b.of(0, 3), 1);
        due(17, "of(1, 3)", b.of(1, 3), 2);
        b.by(read(b, "tips 10+tip*2+all+snow+hour+load 6+load 3+load 4+load 9+load(0-1);"));
        due(17, "of(1, 3) without", b.of(1, 3), 1);
        due(19, "is(3)", b.is(3), 10 + 2 + 11 + 4 + 7);
        b.hour(1); // snow on place 7
        due(19, "is(3)", b.is(3), 10 + 8 + 12 + 1 + 1 + 4 + 7);
        b = under("tips load 7*10+load 8;");
        b.person(3, 7);
        b.hour(1);
        due(19, "is(3), load with snow", b.is(3), 40);
    }

    private static void arithmetic() {
        tips("7", 7);
        tips("20-3-4", 13);
        tips("20-(3-4)", 21);
        tips("2+3*4", 14);
        tips("(2+3)*4", 20);
        tips("7/2*2", 6);
        tips("50-7/2", 47);
        tips("50+-7/2", 47);
        tips("50-(0-7)/(0-2)", 47);
        tips("50+7/-2", 47);
        tips("7/0+3", 3);
        tips("7/(hour*5)+3", 3);
        tips("--3", 3);
        tips("5--3", 8);
        tips("5+-3", 2);
        tips("2*-3+10", 4);
        tips("sign 5+sign -5+sign 0+7", 7);
        tips("sign 9*3+sign-9", 2);
        tips("sign(2-9)+3", 2);
        tips("9999*9999/9999", 99);
        tips("9999*9999/9999/2", 50);
        tips("9999*9999-9999*100-90", 10);
        tips("9999*100+9999-9999*100-9989", 0);
        tips("0-9999*9999+9999*100+110", 10);
        tips("9999*9999*-1+9999*100+110", 10);
        tips("9999*9999*(0-9999)/-9999/10", 10);
        tips("9999*50+9999*50+9999-9999*99-9999-90", 10);
    }

    private static void questions() {
        tips("if 1<2 then 3 else 4 end", 3);
        tips("if 2<2 then 3 else 4 end", 4);
        tips("if 2<=2 then 3 else 4 end", 3);
        tips("if 3<=2 then 3 else 4 end", 4);
        tips("if 3>2 then 3 else 4 end", 3);
        tips("if 2>2 then 3 else 4 end", 4);
        tips("if 2>=2 then 3 else 4 end", 3);
        tips("if 1>=2 then 3 else 4 end", 4);
        tips("if 2=2 then 3 else 4 end", 3);
        tips("if 1=2 then 3 else 4 end", 4);
        tips("if 1#2 then 3 else 4 end", 3);
        tips("if 2#2 then 3 else 4 end", 4);
        tips("if not 2#2 then 3 else 4 end", 3);
        tips("if not not 2#2 then 3 else 4 end", 4);
        tips("if 1=1 or 1=2 and 1=2 then 3 else 4 end", 3);
        tips("if 1=2 and 1=2 or 1=1 then 3 else 4 end", 3);
        tips("if 1=2 or 1=1 and 1=2 then 3 else 4 end", 4);
        tips("if not 1=1 and 1=2 then 3 else 4 end", 4);
        tips("if not 1=2 or 1=1 then 3 else 4 end", 3);
        tips("if 1+1=2*1 then 3+1 else 4 end*2", 8);
        tips("if 1=1 then if 1=2 then 5 else 6 end else 7 end+1", 7);
        tips("if 1=2 then 5 else if 1=1 then 6 else 7 end end-1", 5);
        tips("if if 1=1 then 0 else 1 end = 0 then 8 else 9 end", 8);
        tips("2*if 1=1 then 3 else 4 end*if 1=2 then 5 else 6 end", 36);
    }

    private static void by() {
        BoroughBeam b = new BoroughBeam();
        due(9, "by(0)", b.by(0), false);
        due(9, "by(NONE)", b.by(NONE), true);
        read(b, "tips 3;");
        due(9, "is(3), not ruling yet", b.is(3), 9);
        due(9, "by(0)", b.by(0), true);
        due(9, "about(3)", b.about(3), 0);
        due(9, "is(3)", b.is(3), 3);
        due(9, "by(1)", b.by(1), false);
        due(9, "by(-2)", b.by(-2), false);
        for (int far : FAR) {
            due(9, "by(far)", b.by(far), false);
        }
        due(9, "about(3)", b.about(3), 0);
        due(9, "by(NONE)", b.by(NONE), true);
        due(9, "is(3)", b.is(3), 9);
        due(9, "about(4)", b.about(4), 0);
    }

    private static void walk() {
        BoroughBeam b = with(3, 4);
        due(10, "walk(1, true)", b.walk(1, true), false);
        due(10, "walk(-1, true)", b.walk(-1, true), false);
        for (int far : FAR) {
            due(10, "walk(far, true)", b.walk(far, true), false);
        }
        for (int i = 0; i < 3; i++) {
            due(10, "walk(0, false)", b.walk(0, false), true);
        }
        due(10, "is(2)", b.is(2), -9);
        due(10, "walk(0, false), too far", b.walk(0, false), false);
        due(10, "of(0, 1)", b.of(0, 1), 1);
        due(10, "about(4)", b.about(4), 3);
        b = with(1, 8, 1, 0);
        due(10, "walk(0, true) beyond the end", b.walk(0, true), false);
        due(10, "walk(1, false) beyond the end", b.walk(1, false), false);
        due(10, "about(4)", b.about(4), 0);
        // Far tipped, one may not go even to the better side unless it comes within the law.
        b = with(9, 8);
        due(10, "walk(0, false)", b.walk(0, false), false);
        // The law is asked when one has gone: at 5 it allows 5, at 4 it would allow 2.
        b = under("tips if load 5 > 0 then 5 else 2 end;");
        b.person(5, 4);
        due(10, "walk(0, true) by the law as it is then", b.walk(0, true), true);
        due(10, "walk(0, true)", b.walk(0, true), false);
        b = under("tips if load 4 > 0 then 9 else 2 end;");
        b.person(5, 4);
        due(10, "walk(0, true) by the law as it is then", b.walk(0, true), false);
    }

    private static void pair() {
        BoroughBeam b = with(9, 4, 9, 4);
        due(11, "pair(0, true, 0, false)", b.pair(0, true, 0, false), false);
        due(11, "pair(0, true, 2, false)", b.pair(0, true, 2, false), false);
        due(11, "pair(-1, true, 0, false)", b.pair(-1, true, 0, false), false);
        due(11, "pair(far)", b.pair(Integer.MAX_VALUE, true, Integer.MIN_VALUE, false), false);
        for (int i = 0; i < 4; i++) {
            due(11, "pair(1, true, 0, false)", b.pair(1, true, 0, false), true);
        }
        due(11, "pair(1, true, 0, false) beyond the ends", b.pair(1, true, 0, false), false);
        due(11, "pair(1, true, 0, true) beyond one end", b.pair(1, true, 0, true), false);
        due(11, "of(0, 1)", b.of(0, 1), 0);
        due(11, "of(1, 1)", b.of(1, 1), 8);
        due(11, "pair(0, true, 1, true)", b.pair(0, true, 1, true), false);
        due(11, "about(4), a pair is one step", b.about(4), 4);
        due(11, "undo()", b.undo(), 3);
        due(11, "of(0, 1)", b.of(0, 1), 1);
        due(11, "of(1, 1)", b.of(1, 1), 7);
        due(11, "pair(0, true, 1, true), too far", b.pair(0, true, 1, true), false);
        due(11, "of(0, 1)", b.of(0, 1), 1);
        b = with(4, 4, 5, 4);
        due(11, "pair(0, true, 1, true)", b.pair(0, true, 1, true), true);
        due(11, "is(2)", b.is(2), 9);
    }

    private static void shovel() {
        BoroughBeam b = new BoroughBeam();
        b.hour(2); // places 7 and 6
        due(12, "is(2)", b.is(2), 5);
        due(12, "shovel(7, 0)", b.shovel(7, 0), false);
        due(12, "shovel(7, 10)", b.shovel(7, 10), false);
        due(12, "shovel(7, -1)", b.shovel(7, -1), false);
        due(12, "shovel(-1, 1)", b.shovel(-1, 1), false);
        due(12, "shovel(9, 1)", b.shovel(9, 1), false);
        for (int far : FAR) {
            due(12, "shovel(far, 1)", b.shovel(far, 1), false);
            due(12, "shovel(7, far)", b.shovel(7, far), false);
        }
        due(12, "shovel(7, 2), not so much", b.shovel(7, 2), false);
        due(12, "about(4)", b.about(4), 2);
        due(12, "shovel(7, 1)", b.shovel(7, 1), true);
        due(12, "place(7, 0)", b.place(7, 0), 0);
        due(12, "is(2)", b.is(2), 2);
        due(12, "about(4)", b.about(4), 3);
        b.person(3, 1);
        due(12, "is(2)", b.is(2), -7);
        due(12, "shovel(6, 1), 9 is not too far", b.shovel(6, 1), true);
        due(12, "undo()", b.undo(), 3);
        b.by(read(b, "tips 6+load 6*2;"));
        due(12, "shovel(6, 1), too far by the law as it is then", b.shovel(6, 1), false);
        due(12, "place(6, 0)", b.place(6, 0), 1);
    }

    private static void hour() {
        BoroughBeam b = new BoroughBeam();
        due(13, "hour(0)", b.hour(0), NONE);
        due(13, "hour(61)", b.hour(61), NONE);
        due(13, "hour(-1)", b.hour(-1), NONE);
        for (int far : FAR) {
            due(13, "hour(far)", b.hour(far), NONE);
        }
        due(13, "about(4)", b.about(4), 0);
        due(13, "hour(1)", b.hour(1), 0);
        due(13, "is(0)", b.is(0), 1);
        due(13, "is(1)", b.is(1), 25170);
        due(13, "place(7, 0), 349 mod 9", b.place(7, 0), 1);
        due(13, "hour(1)", b.hour(1), 0);
        due(13, "is(1)", b.is(1), 15547);
        due(13, "place(6, 0), 25170 mod 9", b.place(6, 0), 1);
        // At 9 the tip is not too far; one more and it slips.
        b = with(3, 6);
        due(13, "hour(1), 9 is not too far", b.hour(1), 0);
        due(13, "hour(1), 11 is", b.hour(1), 1);
        due(13, "of(0, 1)", b.of(0, 1), 7);
        due(13, "about(4), each is a step", b.about(4), 2);
        // It slips in an hour even if nobody can slide.
        b = with(9, 8);
        due(13, "hour(3)", b.hour(3), 3);
        due(13, "of(0, 1), not beyond the end", b.of(0, 1), 8);
        due(13, "book(NONE, 0)", b.book(NONE, 0), 0);
        b = with(9, 1);
        due(13, "hour(1) to the left", b.hour(1), 1);
        due(13, "of(0, 1)", b.of(0, 1), 0);
        b = new BoroughBeam();
        for (int i = 0; i < 20; i++) {
            b.hour(60);
        }
        for (int p = 0; p < 9; p++) {
            due(13, "place(" + p + ", 0), 9 at most", b.place(p, 0), 9);
        }
    }

    private static void slides() {
        // By number, each as it is then: the first to slide changes what the law says to the second.
        BoroughBeam b = under("tips 0;slides if load 5 > 0 then 2 else 1 end;");
        b.person(1, 5);
        b.person(1, 6);
        due(13, "hour(1)", b.hour(1), 1);
        due(13, "of(0, 1)", b.of(0, 1), 7);
        due(13, "of(1, 1)", b.of(1, 1), 7);
        // To the right as the hour's snow left it, though the tip changes as they slide; hour is not yet one more.
        b = under("tips 0;slides if who = 0 then 3 else hour + 2 - sign tip end;");
        b.person(1, 8);
        b.person(4, 4);
        due(13, "hour(1)", b.hour(1), 1);
        due(13, "of(1, 1), tip is above 0 then", b.of(1, 1), 5);
        b = under("tips 99;slides 3;");
        b.person(9, 8);
        b.person(9, 8);
        due(13, "hour(5) under a wide law", b.hour(5), 0);
        b = under("tips tip;slides 2;");
        b.person(1, 0);
        due(13, "hour(1)", b.hour(1), 1);
        due(13, "of(0, 1), not beyond the end", b.of(0, 1), 0);
        b = under("tips 2;slides 0;");
        b.person(1, 7);
        due(13, "hour(2), nobody slides but it slips", b.hour(2), 2);
        due(13, "book(NONE, 0)", b.book(NONE, 0), 0);
    }

    private static BoroughBeam late(int hours) {
        BoroughBeam b = new BoroughBeam();
        for (int i = 0; i < hours / 60; i++) {
            b.hour(60);
        }
        if (hours % 60 > 0) {
            b.hour(hours % 60);
        }
        due(19, "is(0)", b.is(0), hours);
        return b;
    }

    private static void lastHour() {
        BoroughBeam b = late(9950);
        due(13, "hour(50), beyond 9999", b.hour(50), NONE);
        due(13, "is(0), nothing is done", b.is(0), 9950);
        int t = read(b, "person 1 at 4;hour 40;hour 20;person 2 at 4;");
        due(14, "played(), those that can pass do", b.played(t), 2);
        due(14, "is(0)", b.is(0), 9999);
        due(14, "about(0)", b.about(0), 1);
        due(13, "hour(1)", b.hour(1), NONE);
        int x = b.is(1);
        due(21, "foretold(1, 0)", b.foretold(1, 0), b.of(0, 1));
        b.by(read(b, "tips 0;"));
        due(2, "person(9, 5)", b.person(9, 5), 1);
        due(21, "foretold(5, 1), no hour can pass", b.foretold(5, 1), 5);
        b.by(NONE);
        due(15, "years(3, 40)", b.years(3, 40), 9999);
        due(16, "undo()", b.undo(), 29);
        due(16, "is(1)", b.is(1), x);
        due(16, "is(0)", b.is(0), 9999);
        due(16, "undo()", b.undo(), 28);
        due(16, "is(0)", b.is(0), 9998);
        due(13, "hour(2)", b.hour(2), NONE);
        due(13, "hour(1)", b.hour(1) >= 0, true);
        due(13, "is(0)", b.is(0), 9999);
    }

    private static void played() {
        BoroughBeam b = new BoroughBeam();
        due(14, "played(0)", b.played(0), -2);
        due(14, "played(NONE)", b.played(NONE), -2);
        due(14, "played() of none", b.played(read(b, "")), NONE);
        due(14, "played() of laws", b.played(read(b, "tips 0;slides 0;")), NONE);
        due(14, "is(3), playing is not ruling", b.is(3), 9);
        int t = read(b, "person 3 at 4;tips 1;goal 0 at 7;right 0;right 0;left 0;hour 2;shovel 1 at 7;goal 1 at 3;left 0;");
        due(14, "played()", b.played(t), 8);
        due(14, "of(0, 1)", b.of(0, 1), 5);
        due(14, "of(0, 2)", b.of(0, 2), 7);
        due(14, "is(0)", b.is(0), 2);
        due(14, "place(6, 0)", b.place(6, 0), 1);
        due(14, "place(7, 0)", b.place(7, 0), 0);
        due(14, "about(4)", b.about(4), 6);
        due(14, "played(4)", b.played(4), -2);
        for (int far : FAR) {
            due(14, "played(far)", b.played(far), -2);
        }
        b = new BoroughBeam();
        due(14, "left, nobody there", b.played(read(b, "left 0;")), 0);
        due(14, "right, nobody there", b.played(read(b, "tips 1;right 3;")), 1);
        due(14, "a fifth person", b.played(read(b, "person 1 at 1;person 1 at 1;person 1 at 1;person 1 at 1;person 1 at 1;")), 4);
        due(14, "shovel, too little", b.played(read(b, "shovel 1 at 0;")), 0);
        due(14, "about(0), what was done stays", b.about(0), 4);
    }

    private static void years() {
        BoroughBeam b = new BoroughBeam();
        due(15, "years(-1, 1)", b.years(-1, 1), NONE);
        due(15, "years(10000, 1)", b.years(10000, 1), NONE);
        due(15, "years(0, 0)", b.years(0, 0), NONE);
        due(15, "years(0, 41)", b.years(0, 41), NONE);
        due(15, "about(4)", b.about(4), 0);
        // 349 is 1 by 6, 25170 is 0: nobody goes, but it is a step.
        due(15, "years(0, 2)", b.years(0, 2), 0);
        due(15, "about(4)", b.about(4), 1);
        due(15, "is(1)", b.is(1), 15547);
        due(15, "undo()", b.undo(), 0);
        due(15, "is(1)", b.is(1), 349);
        // 9999 * 2 + 349 = 20347 is 1 by 6; then 15898.
        due(15, "years(9999, 1)", b.years(9999, 1), 0);
        due(15, "is(1)", b.is(1), (20347 * 601 + 467) % 30841);
        // Seed 2: 353 is 5 by 6: an hour, its draw is of the X behind it.
        due(15, "years(2, 1)", b.years(2, 1), 1);
        int x = (353 * 601 + 467) % 30841;
        due(15, "place(" + x % 9 + ", 0)", b.place(x % 9, 0), 1);
        due(15, "is(1)", b.is(1), (x * 601 + 467) % 30841);
        b = with(2, 4, 3, 4);
        // Seed 1: 351 is 3 by 6: a pair, 351 mod 2 = 1 to the left, 351 / 6 = 58 mod 2 = 0 to the right.
        due(15, "years(1, 1)", b.years(1, 1), 0);
        due(15, "of(1, 1)", b.of(1, 1), 3);
        due(15, "of(0, 1)", b.of(0, 1), 5);
        // 363 = 3 by 6 (seed 7): 363 mod 2 = 1, 363 / 6 = 60 mod 2 = 0 again; 357 (seed 4): 1 and 59 mod 2 = 1: like ones do not go.
        due(15, "years(4, 1)", b.years(4, 1), 0);
        due(15, "of(1, 1)", b.of(1, 1), 3);
        due(15, "of(0, 1)", b.of(0, 1), 5);
        due(15, "about(4)", b.about(4), 2);
        // Seed 3: 355 is 1 by 6: 355 mod 2 = 1 goes to the right.
        due(15, "years(3, 1)", b.years(3, 1), 0);
        due(15, "of(1, 1)", b.of(1, 1), 4);
        yearsShovel();
    }

    /** A year whose second draw shovels: looked for by the document's own sum. */
    private static void yearsShovel() {
        for (int seed = 0; seed < 10000; seed++) {
            int first = seed * 2 + 349;
            int second = (first * 601 + 467) % 30841;
            if (first % 6 == 1 && second % 6 == 2 && second / 6 % 9 == 7) {
                BoroughBeam b = new BoroughBeam();
                b.hour(1);
                due(15, "years(" + seed + ", 2)", b.years(seed, 2), 1);
                due(15, "place(7, 0), shovelled", b.place(7, 0), 0);
                due(15, "years(" + seed + ", 2)", b.years(seed, 2), 1);
                due(15, "place(7, 0), none was there", b.place(7, 0), 0);
                due(15, "undo()", b.undo(), 2);
                b.undo();
                due(15, "place(7, 0), taken back at once", b.place(7, 0), 1);
                return;
            }
        }
        due(15, "a seed that shovels", false, true);
    }

    private static void undo() {
        BoroughBeam b = with(1, 4);
        due(16, "undo()", b.undo(), NONE);
        for (int i = 0; i < 20; i++) {
            b.walk(0, true);
            b.walk(0, false);
        }
        due(16, "about(4), the latest 30", b.about(4), 30);
        b.hour(1);
        b.shovel(7, 1);
        due(16, "about(4)", b.about(4), 30);
        due(16, "undo()", b.undo(), 29);
        due(16, "place(7, 0)", b.place(7, 0), 1);
        due(16, "undo()", b.undo(), 28);
        due(16, "place(7, 0)", b.place(7, 0), 0);
        due(16, "is(0)", b.is(0), 0);
        due(16, "is(1)", b.is(1), 349);
        for (int i = 27; i >= 0; i--) {
            due(16, "of(0, 1)", b.of(0, 1), 4 + (27 - i) % 2);
            due(16, "undo()", b.undo(), i);
        }
        due(16, "undo()", b.undo(), NONE);
        due(16, "of(0, 1)", b.of(0, 1), 4);
        // The book comes back whole, what had fallen out of it too.
        b = with(9, 8, 1, 0, 1, 0, 1, 0);
        b.hour(8);
        due(16, "book(NONE, 0)", b.book(NONE, 0), 24);
        b.by(read(b, "tips 99;"));
        int left = 0;
        for (int i = 0; i < 8; i++) {
            left += b.walk(1, false) ? 1 : 0;
            left += b.walk(2, false) ? 1 : 0;
        }
        due(16, "all went", left, 16);
        b.by(NONE);
        b.hour(5);
        due(16, "book(NONE, 0)", b.book(NONE, 0), 30);
        due(16, "book(0, 0), the eldest", b.book(0, 0), 1);
        due(16, "book(29, 0), the latest", b.book(29, 0), 12);
        for (int i = 0; i < 5; i++) {
            b.undo();
        }
        due(16, "book(NONE, 0)", b.book(NONE, 0), 24);
        due(16, "book(0, 0)", b.book(0, 0), 0);
    }

    private static void undoPeople() {
        BoroughBeam b = with(1, 4);
        b.walk(0, true);
        b.person(2, 3);
        b.goal(1, 2);
        b.walk(1, false);
        due(16, "undo()", b.undo(), 1);
        due(16, "of(1, 1)", b.of(1, 1), 3);
        due(16, "undo()", b.undo(), 0);
        due(16, "of(1, 1), as told", b.of(1, 1), 3);
        due(16, "of(0, 1)", b.of(0, 1), 4);
        due(16, "of(1, 2), goals stay", b.of(1, 2), 2);
        due(16, "about(0)", b.about(0), 2);
    }

    private static void tellings() {
        BoroughBeam b = with(3, 7, 5, 2, 4, 7);
        b.hour(1); // 9 - 10 + 12 + 3 = 14 slips: 8, 3, 8
        due(17, "of(0, 1)", b.of(0, 1), 8);
        due(17, "of(1, 1)", b.of(1, 1), 3);
        due(17, "of(2, 0)", b.of(2, 0), 4);
        due(17, "of(0, 4)", b.of(0, 4), -2);
        due(17, "of(0, -1)", b.of(0, -1), -2);
        due(17, "of(3, 0)", b.of(3, 0), -2);
        due(17, "of(-1, 0)", b.of(-1, 0), -2);
        due(18, "place(7, 0)", b.place(7, 0), 1);
        due(18, "place(7, 1)", b.place(7, 1), 0);
        due(18, "place(7, 2)", b.place(7, 2), 1);
        due(18, "place(8, 1)", b.place(8, 1), 5);
        due(18, "place(8, 2)", b.place(8, 2), 7);
        due(18, "place(3, 1)", b.place(3, 1), 2);
        due(18, "place(9, 0)", b.place(9, 0), NONE);
        due(18, "place(-1, 0)", b.place(-1, 0), NONE);
        due(18, "place(0, 3)", b.place(0, 3), NONE);
        due(18, "place(0, -1)", b.place(0, -1), NONE);
        due(19, "is(0)", b.is(0), 1);
        due(19, "is(2)", b.is(2), 12 - 5 + 16 + 3);
        due(19, "is(4)", b.is(4), 13);
        due(19, "is(5)", b.is(5), -1000);
        due(19, "is(-1)", b.is(-1), -1000);
        for (int far : FAR) {
            due(17, "of(far, 0)", b.of(far, 0), -2);
            due(17, "of(0, far)", b.of(0, far), -2);
            due(18, "place(far, 0)", b.place(far, 0), NONE);
            due(18, "place(0, far)", b.place(0, far), NONE);
            due(19, "is(far)", b.is(far), -1000);
        }
    }

    private static void book() {
        BoroughBeam b = with(2, 6, 2, 6, 1, 8);
        due(20, "book(NONE, 0)", b.book(NONE, 0), 0);
        due(20, "book(0, 0)", b.book(0, 0), -2);
        b.hour(2); // 12 and 3 is 15: slips in both
        due(20, "book(NONE, 0)", b.book(NONE, 0), 4);
        int[][] want = {{0, 0, 6, 7}, {0, 1, 6, 7}, {1, 0, 7, 8}, {1, 1, 7, 8}};
        for (int i = 0; i < 4; i++) {
            for (int k = 0; k < 4; k++) {
                due(20, "book(" + i + ", " + k + ")", b.book(i, k), want[i][k]);
            }
        }
        due(20, "book(4, 0)", b.book(4, 0), -2);
        due(20, "book(-2, 0)", b.book(-2, 0), -2);
        due(20, "book(0, 4)", b.book(0, 4), -2);
        due(20, "book(0, -1)", b.book(0, -1), -2);
        for (int far : FAR) {
            due(20, "book(far, 0)", b.book(far, 0), -2);
            due(20, "book(0, far)", b.book(0, far), -2);
        }
        // In the order of numbers within an hour (that over 30 the eldest fall out is seen where it is taken back).
        b = with(1, 0, 1, 0, 1, 0, 9, 8);
        due(20, "hour(8)", b.hour(8), 8);
        due(20, "book(2, 1)", b.book(2, 1), 2);
        due(20, "book(3, 1)", b.book(3, 1), 0);
        due(20, "book(23, 3)", b.book(23, 3), 8);
    }

    private static void foretold() {
        BoroughBeam b = with(2, 6, 2, 6, 1, 8);
        due(21, "foretold(0, 0)", b.foretold(0, 0), NONE);
        due(21, "foretold(61, 0)", b.foretold(61, 0), NONE);
        due(21, "foretold(1, 3)", b.foretold(1, 3), NONE);
        due(21, "foretold(1, -1)", b.foretold(1, -1), NONE);
        due(21, "foretold(1, 0)", b.foretold(1, 0), 7);
        due(21, "foretold(2, 1)", b.foretold(2, 1), 8);
        due(21, "foretold(60, 1)", b.foretold(60, 1), 8);
        due(21, "is(0)", b.is(0), 0);
        due(21, "is(1)", b.is(1), 349);
        due(21, "is(4)", b.is(4), 5);
        due(21, "book(NONE, 0)", b.book(NONE, 0), 0);
        due(21, "about(4)", b.about(4), 0);
        b.by(read(b, "slides 0;"));
        due(21, "foretold(60, 0)", b.foretold(60, 0), 6);
    }

    private static void tip() {
        BoroughBeam b = with(3, 4, 5, 2);
        due(22, "tip(0, 8)", b.tip(0, 8), 2);
        due(22, "tip(1, 0)", b.tip(1, 0), -20);
        due(22, "tip(1, 2)", b.tip(1, 2), -10);
        due(22, "tip(2, 2)", b.tip(2, 2), -1000);
        due(22, "tip(-1, 2)", b.tip(-1, 2), -1000);
        due(22, "tip(0, 9)", b.tip(0, 9), -1000);
        due(22, "tip(0, -1)", b.tip(0, -1), -1000);
        due(22, "is(2)", b.is(2), -10);
        b.by(read(b, "slides 0;"));
        b.hour(1);
        due(22, "tip(0, 4) with snow", b.tip(0, 4), -7);
    }

    private static void errands(BoroughBeam b, boolean pairs, int... want) {
        due(23, "errands(" + pairs + ", NONE)", b.errands(pairs, NONE), want.length);
        for (int i = 0; i < want.length; i++) {
            due(23, "errands(" + pairs + ", " + i + ")", b.errands(pairs, i), want[i]);
        }
        due(23, "errands(" + pairs + ", end)", b.errands(pairs, want.length), -2);
        due(23, "errands(" + pairs + ", -2)", b.errands(pairs, -2), -2);
        for (int far : FAR) {
            due(23, "errands(" + pairs + ", far)", b.errands(pairs, far), -2);
        }
    }

    private static void errands() {
        BoroughBeam b = with(9, 4, 9, 4);
        errands(b, false);
        b.goal(0, 6);
        b.goal(1, 2);
        // One alone may go to an arm of 1: 0 to the right, 1 to the left twice, 0 to the right and so on.
        errands(b, false, 1, 2, 1, 2);
        // As pairs: 10 + 8 + 2 + 0 = 20: 0 to the right, 1 to the left.
        errands(b, true, 20, 20);
        b.goal(1, NONE);
        errands(b, false, 1, 2, 1);
        errands(b, true, 1, 20);
        b.goal(1, 6);
        due(23, "errands(false, NONE), no way", b.errands(false, NONE), -2);
        due(23, "errands(false, 0), no way", b.errands(false, 0), -2);
        due(23, "errands(true, NONE), no way", b.errands(true, NONE), -2);
        due(23, "of(0, 1)", b.of(0, 1), 4);
        due(23, "about(4)", b.about(4), 0);
        b = with(1, 4, 1, 4, 1, 4, 1, 4);
        b.goal(2, 5);
        b.goal(3, 3);
        errands(b, false, 5, 6);
        errands(b, true, 10 + 32 + 8 + 6);
        b.goal(1, 5);
        errands(b, true, 3, 10 + 32 + 8 + 6);
        b = with(1, 8);
        b.goal(0, 0);
        errands(b, true, 0, 0, 0, 0, 0, 0, 0, 0);
        // From a tip that is too far each going must lead within the law.
        b = with(3, 8, 1, 4);
        b.goal(0, 7);
        errands(b, false, 0);
        b = with(5, 8, 1, 4);
        b.goal(0, 4);
        due(23, "errands(false, NONE), too far", b.errands(false, NONE), -2);
        b.goal(0, 8);
        errands(b, false);
    }

    private static void errandsByLaw() {
        // Place 5 may never be trodden on by both: the law asks for the load as it is then.
        BoroughBeam b = under("tips if load 5 > 1 then 0 else 20 end;");
        b.person(1, 4);
        b.person(1, 4);
        b.goal(0, 5);
        b.goal(1, 5);
        due(23, "errands(true, NONE)", b.errands(true, NONE), -2);
        b.goal(0, 6);
        errands(b, false, 1, 1, 3);
        errands(b, true, 1, 10 + 8 + 2 + 1);
        due(24, "where(false)", b.where(false), 80);
        due(24, "where(true)", b.where(true), 80);
    }

    private static void where() {
        due(24, "where(false)", new BoroughBeam().where(false), 1);
        BoroughBeam b = with(1, 4);
        due(24, "where(false)", b.where(false), 9);
        b = with(5, 4);
        due(24, "where(false)", b.where(false), 3);
        due(24, "where(true)", b.where(true), 3);
        b = with(9, 8);
        due(24, "where(false), as now", b.where(false), 1);
        // Two of 9: alone, arms differ by 1 at the most from being opposite.
        b = with(9, 4, 9, 4);
        due(24, "where(false)", b.where(false), 9 + 8 + 8);
        b = with(9, 8, 9, 0);
        due(24, "where(false)", b.where(false), 25);
        b = under("tips 0;");
        b.person(2, 4);
        b.person(2, 4);
        due(24, "where(false)", b.where(false), 1);
        due(24, "where(true)", b.where(true), 9);
        b = with(1, 4, 1, 4, 1, 4, 1, 4);
        b.by(read(b, "tips 99;"));
        due(24, "where(false)", b.where(false), 6561);
        due(24, "where(true)", b.where(true), 6561);
    }

    private static void paid(BoroughBeam b, int wage, int set, int... stand) {
        due(25, "paid(true)", b.paid(true), wage);
        due(25, "paid(false)", b.paid(false), set);
        for (int h = 0; h < 4; h++) {
            due(26, "stand(" + h + ")", b.stand(h), h < stand.length ? stand[h] : NONE);
        }
        due(26, "stand(-1)", b.stand(-1), NONE);
        due(26, "stand(4)", b.stand(4), NONE);
        for (int far : FAR) {
            due(26, "stand(far)", b.stand(far), NONE);
        }
    }

    private static void paid() {
        BoroughBeam b = with(2, 7);
        paid(b, NONE, NONE);
        b.hand(4, 5);
        paid(b, NONE, NONE, NONE);
        b.hand(3, 7);
        paid(b, 7, 2, NONE, 2);
        b.hand(6, 7);
        paid(b, 7, 2, NONE, 2, NONE);
        b.hand(1, 2);
        // 4 and 1 for 7 together, but two: the fewest is hand 1 alone.
        paid(b, 7, 2, NONE, 2, NONE, NONE);
        b = with(2, 7);
        b.hand(4, 5);
        b.hand(1, 1);
        // 4a + b = -6: -4 and -2 (place 3 and 2), or -8 and 2 (place 2 and 6): the lowest place of the lowest hand.
        paid(b, 6, 3, 2, 6);
        b = with(2, 6);
        b.hand(4, 0);
        b.hand(1, 0);
        b.hand(2, 0);
        // -4: by 4 at 3, by 1 at 0, by 2 at 2: the lowest set.
        paid(b, 0, 1, 3);
        b = with(1, 4);
        b.hand(1, 0);
        paid(b, 0, 0, NONE);
        b = with(9, 8, 9, 8);
        b.hand(9, 30);
        b.hand(9, 40);
        b.hand(9, 99);
        b.hand(9, 99);
        paid(b, 70, 3, 0, 0);
        due(25, "is(2), nothing is done", b.is(2), 72);
        // 0 and 1 level 17 (4 at 0, 1 at 3); 0 and 2 would be cheaper, but cannot.
        b = with(4, 8, 1, 5);
        b.hand(4, 1);
        b.hand(1, 5);
        b.hand(2, 3);
        paid(b, 6, 3, 0, 3, NONE);
        // The least wage goes before the fewest.
        b = with(2, 7);
        b.hand(4, 1);
        b.hand(1, 1);
        b.hand(3, 50);
        paid(b, 2, 3, 2, 6, NONE);
        b = with(9, 8, 9, 8, 9, 8, 9, 8);
        b.hand(9, 1);
        b.hand(9, 1);
        b.hand(9, 1);
        paid(b, NONE, NONE);
        b.hand(9, 99);
        paid(b, 102, 15, 0, 0, 0, 0);
    }

    private static void cat() {
        BoroughBeam b = with(2, 6);
        due(27, "cat(4, 0)", b.cat(4, 0), 9);
        due(27, "cat(4, 1)", b.cat(4, 1), 14);
        due(27, "cat(5, 0)", b.cat(5, 0), 1);
        due(27, "cat(5, 1)", b.cat(5, 1), 15);
        due(27, "cat(-8, 0), 12 to the left", b.cat(-8, 0), 3);
        due(27, "cat(-8, 1)", b.cat(-8, 1), 30);
        due(27, "cat(40, 1)", b.cat(40, 1), 98);
        due(27, "cat(41, 0)", b.cat(41, 0), 0);
        due(27, "cat(41, 1)", b.cat(41, 1), NONE);
        due(27, "cat(400, 0)", b.cat(400, 0), 0);
        due(27, "cat(-400, 0)", b.cat(-400, 0), 0);
        due(27, "cat(401, 0)", b.cat(401, 0), NONE);
        due(27, "cat(-401, 0)", b.cat(-401, 0), NONE);
        due(27, "cat(5, 2)", b.cat(5, 2), NONE);
        due(27, "cat(5, -1)", b.cat(5, -1), NONE);
        for (int far : FAR) {
            due(27, "cat(far, 0)", b.cat(far, 0), far == -3 ? 1 : NONE);
            due(27, "cat(5, far)", b.cat(5, far), NONE);
        }
    }

    private static void quarrelAndOrders() {
        BoroughBeam b = with(1, 4);
        due(28, "quarrel(false)", b.quarrel(false), 1);
        due(28, "quarrel(true)", b.quarrel(true), 0);
        due(29, "orders()", b.orders(), 1);
        due(30, "order(0)", b.order(0), 0);
        due(30, "order(1)", b.order(1), -2);
        b.person(1, 4);
        due(28, "quarrel(false)", b.quarrel(false), 0);
        due(28, "quarrel(true)", b.quarrel(true), NONE);
        b.person(1, 4);
        due(28, "quarrel(true)", b.quarrel(true), 0);
        b.person(1, 4);
        due(29, "orders()", b.orders(), 24);
        for (int i = 0; i < 4; i++) {
            due(30, "order(" + i + ")", b.order(i), i);
        }
        due(30, "order(4)", b.order(4), -2);
        due(30, "order(-1)", b.order(-1), -2);
        for (int far : FAR) {
            due(30, "order(far)", b.order(far), -2);
        }
        // Arms by weight: 8, -12, 12. All: 8. Without 0: 0; without 1: 20; without 2: -4.
        b = with(4, 6, 4, 1, 4, 7);
        // {1,2} (0 gone): neither can go: 12 and -12. So sending 0 off wins; {0,1} (2 gone): without 0 -12, without 1 8.
        due(28, "quarrel(false)", b.quarrel(false), 1);
        due(28, "quarrel(true)", b.quarrel(true), 0);
        // All off: 2, 1, 0 alone.
        due(29, "orders()", b.orders(), 1);
        due(30, "order(0)", b.order(0), 2);
        due(30, "order(1)", b.order(1), 1);
        due(30, "order(2)", b.order(2), 0);
        // The law as it says now, with all on the beam.
        b = with(1, 5, 1, 4);
        b.by(read(b, "tips all-2;"));
        due(29, "orders()", b.orders(), 1);
        due(30, "order(0)", b.order(0), 0);
        b = with(9, 8, 9, 0);
        due(28, "quarrel(false), who can't loses", b.quarrel(false), 0);
        due(28, "quarrel(true)", b.quarrel(true), NONE);
        due(29, "orders()", b.orders(), 0);
        due(30, "order(0)", b.order(0), -2);
        // Snow stays on the beam.
        b = under("tips if hour = 0 then 99 else 2 end;");
        b.person(1, 1);
        b.by(NONE);
        b.hour(1); // snow 3 to the right, the person 3 to the left
        due(28, "is(2)", b.is(2), 0);
        due(28, "quarrel(false)", b.quarrel(false), 1);
        b.by(0);
        due(28, "quarrel(false)", b.quarrel(false), 0);
        due(29, "orders()", b.orders(), 0);
    }

    private static void share() {
        BoroughBeam b = with(3, 5, 2, 7, 4, 3);
        // 3, 6, -4. Orders: 012: 3 6 -4; 021: 3 -1 -2 (0, then 2: 1, then 1: 5: 4) ...
        // Person 0: alone 3; behind 1: 3; behind 2: 1 - 4 = -3; behind both: 5 - 2 = 3. (2*3 + 3 - 3 + 2*3) / 6 = 2.
        due(31, "share(0, false)", b.share(0, false), 2);
        due(31, "share(0, true)", b.share(0, true), 1);
        // Person 1: 2*6 + (9 - 3) + (2 - 4) + 2*(5 - 1) = 24: 4.
        due(31, "share(1, false)", b.share(1, false), 4);
        // Person 2: 2*4 + (1 - 3) + (2 - 6) + 2*(5 - 9) = -6: -1.
        due(31, "share(2, false)", b.share(2, false), -1);
        due(31, "share(2, true)", b.share(2, true), 1);
        due(31, "share(3, false)", b.share(3, false), -1000);
        due(31, "share(-1, true)", b.share(-1, true), -1000);
        for (int far : FAR) {
            due(31, "share(far, true)", b.share(far, true), -1000);
        }
        b = with(1, 5, 2, 3);
        // 1, -2: 1 alone, 1 - 2 = -1 behind the other: 0; the other: 2, and 1 - 1 = 0: 1.
        due(31, "share(0, false)", b.share(0, false), 0);
        due(31, "share(0, true)", b.share(0, true), 1);
        due(31, "share(1, false)", b.share(1, false), 1);
        b = with(2, 5, 1, 3);
        // 2 alone, 1 - 1 = 0: 1. The other: 1, -1: 0.
        due(31, "share(0, false)", b.share(0, false), 1);
        b = with(4, 5, 3, 3, 1, 3);
        // Person 2 (-1): 2*1 + (3 - 4) + (4 - 3) + 2*(0 - 1) = 0; person 1 (-3): 2*3 + (1 - 4) + (4 - 1) + 2*(0 - 3) = 0.
        due(31, "share(1, false)", b.share(1, false), 0);
        due(31, "share(0, false)", b.share(0, false), 0);
        b = with(2, 5, 3, 3, 9, 4);
        // Person 0: 2 + 2 + ... : 3*2 + 3*(1 - 3) = 0 by 6; person 1: 3*3 + 3*(1 - 2) = 6: 1.
        due(31, "share(1, false)", b.share(1, false), 1);
        b = with(1, 5, 1, 3, 1, 3);
        // Person 0: 2*1 + (0-1) + (0-1) + 2*(1-2) = -2 by 6: -1 by 3.
        due(31, "share(0, false)", b.share(0, false), -1);
        due(31, "share(0, true)", b.share(0, true), 3);
        // With snow on place 7 (3 to the right) and the person slid nowhere.
        b = with(1, 3);
        b.hour(1);
        due(31, "share(0, false), nearer by snow", b.share(0, false), -1);
        due(31, "share(0, true)", b.share(0, true), 1);
    }

    private static void slips() {
        BoroughBeam b = new BoroughBeam();
        due(32, "slips(1, false)", b.slips(1, false), 1);
        due(32, "slips(1, true)", b.slips(1, true), 128);
        due(32, "slips(0, false)", b.slips(0, false), NONE);
        due(32, "slips(10, true)", b.slips(10, true), NONE);
        for (int far : FAR) {
            due(32, "slips(far, true)", b.slips(far, true), NONE);
        }
        b.by(read(b, "tips 99;"));
        due(32, "slips(9, false), never", b.slips(9, false), 0);
        due(32, "slips(9, true)", b.slips(9, true), 1);
        b.by(read(b, "tips 0;"));
        // Level: as many ways for the sum of the one side as of the other: of 1 .. 4 sums have 1 1 1 2 2 2 2 2 1 1 1 ways.
        due(32, "slips(1, false), 230 of 256", b.slips(1, false), 115);
        due(32, "slips(1, true)", b.slips(1, true), 128);
        b = with(9, 8);
        b.by(read(b, "tips 9;"));
        due(32, "slips(1, false), always", b.slips(1, false), 1);
        due(32, "slips(1, true)", b.slips(1, true), 1);
        // The law as it says now, not with the snow that might come.
        b = under("tips if snow > 0 then 99 else 0 end;");
        due(32, "slips(1, false)", b.slips(1, false), 115);
        // More than 9 may lie in a place here: nothing is said of a most.
        b = under("tips 99;");
        for (int i = 0; i < 10; i++) {
            b.hour(60);
        }
        due(32, "slips(9, false)", b.slips(9, false), 0);
    }

    private static void halves() {
        BoroughBeam b = new BoroughBeam();
        due(33, "halves(0)", b.halves(0), 0);
        due(33, "halves(1)", b.halves(1), 0);
        due(33, "halves(2)", b.halves(2), NONE);
        due(33, "halves(-1)", b.halves(-1), NONE);
        b.person(5, 0);
        due(33, "halves(0)", b.halves(0), 5);
        due(33, "halves(1), the empty one", b.halves(1), 0);
        b.person(3, 0);
        due(33, "halves(0)", b.halves(0), 2);
        due(33, "halves(1)", b.halves(1), 1);
        b.person(2, 0);
        due(33, "halves(0)", b.halves(0), 0);
        due(33, "halves(1)", b.halves(1), 1);
        b.person(4, 0);
        // 5 3 2 4: 7 and 7: {0, 2} is 5, {1, 3} is 10.
        due(33, "halves(0)", b.halves(0), 0);
        due(33, "halves(1)", b.halves(1), 5);
        b = with(4, 0, 1, 0, 1, 0, 4, 0);
        due(33, "halves(1)", b.halves(1), 3);
        for (int far : FAR) {
            due(33, "halves(far)", b.halves(far), NONE);
        }
    }

    private static void level() {
        BoroughBeam b = with(1, 0, 2, 8);
        // a + 2b = 0: b from -2 to 2: (4,-2) (2,-1) (0,0) (-2,1) (-4,2) as places by 9.
        due(34, "level(NONE)", b.level(NONE), 5);
        due(34, "level(0)", b.level(0), 8 + 2 * 9);
        due(34, "level(1)", b.level(1), 6 + 3 * 9);
        due(34, "level(2)", b.level(2), 4 + 4 * 9);
        due(34, "level(3)", b.level(3), 2 + 5 * 9);
        due(34, "level(4)", b.level(4), 6 * 9);
        due(34, "level(5)", b.level(5), -2);
        due(34, "level(-2)", b.level(-2), -2);
        for (int far : FAR) {
            due(34, "level(far)", b.level(far), -2);
        }
        due(34, "of(0, 1)", b.of(0, 1), 0);
        b = new BoroughBeam();
        due(34, "level(NONE)", b.level(NONE), 1);
        b.hour(1);
        due(34, "level(NONE), snow", b.level(NONE), 0);
        due(34, "level(0), snow", b.level(0), -2);
        b.person(1, 4);
        due(34, "level(NONE)", b.level(NONE), 1);
        due(34, "level(0)", b.level(0), 1);
        b = with(1, 4, 1, 4, 1, 4, 1, 4);
        due(34, "level(NONE), ways of four arms that sum to 0", b.level(NONE), 489);
        due(34, "level(0)", b.level(0), 8 + 8 * 9);
        due(34, "level(488)", b.level(488), 8 * 81 + 8 * 729);
        due(34, "level(489)", b.level(489), -2);
    }

    private static void swap() {
        BoroughBeam b = new BoroughBeam();
        due(35, "swap(false)", b.swap(false), -1000);
        due(35, "swap(true)", b.swap(true), NONE);
        b.person(2, 8);
        due(35, "swap(false)", b.swap(false), -1000);
        due(35, "swap(true)", b.swap(true), NONE);
        b.person(4, 2);
        // 8 - 8 = 0; swapped: -4 + 16 = 12.
        due(35, "swap(false)", b.swap(false), 12);
        due(35, "swap(true)", b.swap(true), 1);
        b.person(3, 4);
        // 0 and 2: 0 - 8 + 12 = 4; 1 and 2: 8 + 0 - 6 = 2.
        due(35, "swap(false)", b.swap(false), 2);
        due(35, "swap(true)", b.swap(true), 12);
        due(35, "is(2)", b.is(2), 0);
        b = with(1, 3, 1, 5, 1, 4);
        due(35, "swap(true), like ones: the lowest", b.swap(true), 1);
        due(35, "swap(false)", b.swap(false), 0);
        b = with(1, 8, 2, 6, 3, 0);
        // 4 + 4 - 12 = -4. 01: 2 + 8 - 12 = -2; 02: -4 + 4 + 12 = 12; 12: 4 - 8 + 6 = 2: of like ones 01.
        due(35, "swap(false)", b.swap(false), -2);
        due(35, "swap(true)", b.swap(true), 1);
    }

    private static void send() {
        BoroughBeam b = with(4, 5);
        due(36, "send(1)", b.send(1), 0);
        due(36, "send(2)", b.send(2), 2);
        due(36, "send(4)", b.send(4), 3);
        due(36, "send(3)", b.send(3), 3);
        due(36, "send(8), like ones: the lowest", b.send(8), 3);
        due(36, "send(9)", b.send(9), 4);
        due(36, "send(0)", b.send(0), NONE);
        due(36, "send(10)", b.send(10), NONE);
        for (int far : FAR) {
            due(36, "send(far)", b.send(far), NONE);
        }
        b = with(9, 0);
        due(36, "send(1)", b.send(1), 8);
        due(36, "about(0)", b.about(0), 1);
    }

    private static void saidAndWhose() {
        BoroughBeam b = with(2, 4, 6, 5);
        due(38, "whose(), no texts", b.whose(), 0);
        read(b, "slides weight/2;");
        read(b, "tips 4;");
        read(b, "slides who*2+1;");
        read(b, "slides 9;");
        due(38, "whose(), nothing said", b.whose(), 15);
        due(37, "said(2, 1)", b.said(2, 1), -2);
        due(37, "said(-2, 1)", b.said(-2, 1), -2);
        due(37, "said(0, 4)", b.said(0, 4), -2);
        due(37, "said(0, -1)", b.said(0, -1), -2);
        due(37, "said(0, 1)", b.said(0, 1), 1);
        due(38, "whose()", b.whose(), 7);
        due(37, "said(1, 3)", b.said(1, 3), 2);
        due(38, "whose()", b.whose(), 5);
        due(37, "said(1, 0)", b.said(1, 0), 3);
        due(38, "whose()", b.whose(), 0);
        due(37, "said(NONE, 0)", b.said(NONE, 0), 0);
        due(37, "about(5)", b.about(5), 0);
        due(38, "whose()", b.whose(), 15);
        for (int i = 1; i <= 8; i++) {
            due(37, "said(1, 3)", b.said(1, 3), i);
        }
        due(37, "said(1, 3)", b.said(1, 3), -2);
        due(37, "about(5)", b.about(5), 8);
        due(38, "whose()", b.whose(), 13);
        due(37, "said(NONE, 9)", b.said(NONE, 9), 0);
        for (int far : FAR) {
            due(37, "said(far, 1)", b.said(far, 1), -2);
            due(37, "said(0, far)", b.said(0, far), -2);
        }
    }

    private static void free() {
        BoroughBeam b = with(1, 0, 1, 8, 9, 4);
        due(39, "free(0)", b.free(0), 2);
        due(39, "free(1)", b.free(1), 1);
        due(39, "free(2)", b.free(2), 3);
        due(39, "free(3)", b.free(3), NONE);
        due(39, "free(-1)", b.free(-1), NONE);
        b.walk(2, true);
        due(39, "free(2)", b.free(2), 1);
        due(39, "free(0)", b.free(0), 0);
        due(39, "of(2, 1)", b.of(2, 1), 5);
        due(39, "about(4)", b.about(4), 1);
        for (int far : FAR) {
            due(39, "free(far)", b.free(far), NONE);
        }
    }

    private static void loneAndHeaviest() {
        BoroughBeam b = new BoroughBeam();
        due(40, "lone()", b.lone(), 0);
        due(41, "heaviest()", b.heaviest(), NONE);
        b.hour(1);
        due(40, "lone()", b.lone(), 0);
        due(41, "heaviest(), snow", b.heaviest(), 7);
        b.person(1, 3);
        due(41, "heaviest(), like ones", b.heaviest(), 3);
        b.person(1, 7);
        due(40, "lone()", b.lone(), 3);
        due(41, "heaviest(), snow too", b.heaviest(), 7);
        b.person(1, 3);
        due(40, "lone()", b.lone(), 2);
        due(41, "heaviest()", b.heaviest(), 3);
        b.person(4, 8);
        due(40, "lone()", b.lone(), 10);
        due(41, "heaviest()", b.heaviest(), 8);
    }

    private static void travelledAndLedger() {
        BoroughBeam b = with(9, 8, 1, 5, 1, 5, 1, 0);
        due(42, "travelled()", b.travelled(), NONE);
        due(43, "ledger(NONE)", b.ledger(NONE), 0);
        b.hour(2);
        due(42, "travelled(), like ones: the lowest", b.travelled(), 1);
        due(43, "ledger(NONE)", b.ledger(NONE), 6);
        due(43, "ledger(0)", b.ledger(0), 0);
        due(43, "ledger(3)", b.ledger(3), 2);
        b.hour(6);
        due(42, "travelled()", b.travelled(), 3);
        due(43, "ledger(3)", b.ledger(3), 8);
        due(43, "ledger(1)", b.ledger(1), 3);
        due(43, "ledger(NONE)", b.ledger(NONE), 14);
        due(43, "ledger(4)", b.ledger(4), -2);
        due(43, "ledger(-2)", b.ledger(-2), -2);
        for (int far : FAR) {
            due(43, "ledger(far)", b.ledger(far), -2);
        }
        due(43, "ledger(0)", with().ledger(0), -2);
    }

    private static void imageAndBack() {
        BoroughBeam b = with(3, 6, 2, 4);
        b.goal(0, 5);
        b.hand(3, 4);
        b.said(0, 1);
        read(b, "tips 30;");
        b.by(0);
        b.hour(2);
        b.by(NONE);
        b.hour(1);
        b.walk(1, false);
        b.by(0);
        int x = b.is(1);
        int steps = b.about(4);
        int written = b.book(NONE, 0);
        int tip = b.is(2);
        due(44, "image()", b.image(), 3);
        b.by(NONE);
        b.goal(0, NONE);
        b.goal(1, 1);
        b.person(4, 4);
        b.hand(1, 1);
        b.said(NONE, 0);
        b.said(2, 2);
        read(b, "tips 1;");
        b.hour(40);
        feed(b, "x");
        b.text();
        feed(b, "abc");
        due(45, "back()", b.back(), 3);
        int[] about = {2, 1, 1, 0, steps, 1, 3};
        for (int k = 0; k < 7; k++) {
            due(45, "about(" + k + ")", b.about(k), about[k]);
        }
        due(45, "fault(0), the latest", b.fault(0), 1);
        due(45, "is(1)", b.is(1), x);
        due(45, "is(2)", b.is(2), tip);
        due(45, "is(3)", b.is(3), 30);
        due(45, "of(0, 2)", b.of(0, 2), 5);
        due(45, "of(1, 2)", b.of(1, 2), NONE);
        due(45, "book(NONE, 0)", b.book(NONE, 0), written);
        due(45, "whose()", b.whose(), 1);
        due(45, "undo(), steps too", b.undo(), steps - 1);
        due(45, "back(), it stays", b.back(), 3);
        due(45, "about(4)", b.about(4), steps);
        due(45, "text() anew", read(b, "tips 7;"), 1);
        b.by(1);
        due(45, "is(3)", b.is(3), 7);
        for (int i = steps - 1; i >= 0; i--) {
            due(45, "undo()", b.undo(), i);
        }
        due(45, "is(0)", b.is(0), 0);
        due(44, "image()", b.image(), 0);
        b.hour(5);
        due(45, "back()", b.back(), 0);
        due(45, "about(4)", b.about(4), 0);
        due(45, "about(2)", b.about(2), 2);
        due(45, "is(3)", b.is(3), 7);
    }

    private static void imageOfLists() {
        BoroughBeam b = with(1, 0, 1, 0, 9, 8);
        b.hour(2);
        read(b, "slides who;");
        b.said(1, 1);
        b.image();
        b.undo();
        b.walk(0, false);
        b.by(read(b, "slides 0 - 1 + 3 * sign tip;"));
        b.hour(20);
        b.said(NONE, 0);
        b.said(0, 1);
        due(45, "whose()", b.whose(), 0);
        b.back();
        due(45, "whose(), what was said", b.whose(), 1);
        int[][] want = {{0, 0, 0, 1}, {0, 1, 0, 1}, {1, 0, 1, 2}, {1, 1, 1, 2}};
        due(45, "book(NONE, 0)", b.book(NONE, 0), 4);
        for (int i = 0; i < 4; i++) {
            for (int k = 0; k < 4; k++) {
                due(45, "book(" + i + ", " + k + ")", b.book(i, k), want[i][k]);
            }
        }
        // More than 30 written since: the eldest come back.
        b = with(1, 0, 1, 0, 1, 0, 9, 8);
        b.hour(8);
        b.image();
        b.by(read(b, "tips 99;"));
        for (int i = 0; i < 24; i++) {
            b.walk(i % 3, false);
        }
        b.by(NONE);
        b.hour(8);
        due(45, "book(0, 0)", b.book(0, 0), 6);
        b.back();
        due(45, "book(0, 0)", b.book(0, 0), 0);
        due(45, "book(23, 0)", b.book(23, 0), 7);
    }

    private static void about() {
        BoroughBeam b = with(1, 1, 2, 2);
        b.hand(1, 1);
        read(b, "tips 1;");
        b.by(0);
        b.hour(3);
        b.said(1, 1);
        b.feed(0, 0, 0, 0, 0);
        int[] want = {2, 1, 1, 0, 3, 1, 20};
        for (int k = 0; k < 7; k++) {
            due(46, "about(" + k + ")", b.about(k), want[k]);
        }
        due(46, "about(7)", b.about(7), -2);
        due(46, "about(-1)", b.about(-1), -2);
        for (int far : FAR) {
            due(46, "about(far)", b.about(far), -2);
        }
    }
}
