/** The boundary cases of the tape, of texts, their faults and laws, and of playing them (promises 5 to 8, 14, 17, 19). */
public final class TextBoundaryTests {
    private static final int NONE = Cases.NONE;
    private static final String TWENTY_FOUR = "tips 1;" + "left 0;".repeat(23);

    public static void main(String[] args) {
        feed();
        feedBytes();
        end();
        text();
        textFull();
        faultAsked();
        tokenBlanks();
        tokenLetters();
        tokenNumbers();
        tokenSigns();
        clauseNumbers();
        clauseForms();
        clauseCount();
        oncePerText();
        names();
        depth();
        depthOfEach();
        firstFault();
        faultAtEnd();
        tipsBounds();
        slidesBounds();
        division();
        million();
        sign();
        load();
        comparisons();
        joinedComparisons();
        deepestLaw();
        choices();
        nameValues();
        playedNumbers();
        playedRefused();
        playedHours();
        playedSteps();
        Cases.finish(5, 6, 7, 8, 14, 17, 19);
    }

    private static void test(int promise, String sentence, Cases.Case one) {
        Cases.test(promise, sentence, one);
    }

    private static void due(String call, long got, long want) {
        Cases.due(call, got, want);
    }

    private static void due(String call, boolean got, boolean want) {
        Cases.due(call, got, want);
    }

    /** A case of one text: its fault and that fault's place. */
    private static void fault(String sentence, String text, int kind, int place) {
        test(8, sentence + ": " + text, b -> {
            due("text()", Cases.read(b, text), NONE);
            due("fault(0)", b.fault(0), kind);
            due("fault(1)", b.fault(1), place);
            due("about(2)", b.about(2), 0);
        });
    }

    private static void stands(String sentence, String text) {
        test(8, sentence + ": " + text, b -> {
            due("text()", Cases.read(b, text), 0);
            due("fault(0)", b.fault(0), 0);
            due("fault(1)", b.fault(1), NONE);
        });
    }

    /** A case of one sum, asked of a bare beam at hour 0. */
    private static void tips(String sentence, String sum, int want) {
        test(19, sentence + ": " + sum, b -> {
            Cases.rule(b, "tips " + sum + ";");
            due("is(3)", b.is(3), want);
        });
    }

    private static void feed() {
        test(5, "how many it has: 20 by 20", b -> {
            due("feed()", b.feed(0, 0, 0, 0, 0), 20);
            due("feed()", b.feed(0, 0, 0, 0, 0), 40);
        });
        test(5, "300 are not too many", b -> {
            for (int i = 1; i <= 15; i++) {
                due("feed()", b.feed(0, 0, 0, 0, 0), 20 * i);
            }
            due("about(6)", b.about(6), 300);
        });
        test(5, "more than 300: NONE, and none come", b -> {
            for (int i = 1; i <= 15; i++) {
                b.feed(0, 0, 0, 0, 0);
            }
            due("feed()", b.feed(0, 0, 0, 0, 0), NONE);
            due("about(6)", b.about(6), 300);
        });
        test(5, "behind 281 there would be 301: none come, not 19 either", b -> {
            for (int i = 1; i <= 15; i++) {
                b.feed(0, 0, 0, 0, 0);
            }
            b.end(281);
            due("feed()", b.feed(0, 0, 0, 0, 0), NONE);
            due("about(6)", b.about(6), 281);
        });
        test(5, "behind 280 there are 300", b -> {
            for (int i = 1; i <= 15; i++) {
                b.feed(0, 0, 0, 0, 0);
            }
            b.end(280);
            due("feed()", b.feed(0, 0, 0, 0, 0), 300);
        });
        test(5, "behind 1 there are 21", b -> {
            b.feed(0, 0, 0, 0, 0);
            b.end(1);
            due("feed()", b.feed(0, 0, 0, 0, 0), 21);
        });
    }

    private static void feedBytes() {
        test(5, "the highest byte of a first, the lowest of e last", b -> {
            due("feed()", b.feed(0x6c656674, 0x20303b6c, 0x65667420, 0x303b6c65, 0x66742030), 20);
            due("text()", b.text(), NONE);
            due("fault(0), no ; at the end", b.fault(0), 1);
            due("fault(1)", b.fault(1), 20);
        });
        test(5, "bytes above 127 are bytes", b -> {
            b.feed(0x20202020, 0x20202020, 0x20202020, 0x20202020, 0x202020ff);
            due("text()", b.text(), NONE);
            due("fault(1)", b.fault(1), 19);
        });
        test(5, "a number below 0 has its highest byte first, too", b -> {
            b.feed(0xff202020, 0, 0, 0, 0);
            b.end(4);
            due("text()", b.text(), NONE);
            due("fault(1)", b.fault(1), 0);
        });
        test(5, "what was cut off is not there", b -> {
            Cases.feed(b, "tips 12345");
            b.end(6);
            Cases.feed(b, ";");
            due("text()", b.text(), 0);
            b.by(0);
            due("is(3)", b.is(3), 1);
        });
        test(5, "a token may go on behind a feed", b -> {
            Cases.feed(b, "                   t");
            Cases.feed(b, "ips 7;");
            due("text()", b.text(), 0);
            b.by(0);
            due("is(3)", b.is(3), 7);
        });
    }

    private static void end() {
        test(6, "0 of none", b -> due("end(0)", b.end(0), 0));
        test(6, "1 of none", b -> due("end(1)", b.end(1), NONE));
        test(6, "-1", b -> {
            b.feed(0, 0, 0, 0, 0);
            due("end(-1)", b.end(-1), NONE);
            due("about(6)", b.about(6), 20);
        });
        test(6, "all that it has", b -> {
            b.feed(0, 0, 0, 0, 0);
            due("end(20)", b.end(20), 20);
            due("about(6)", b.about(6), 20);
        });
        test(6, "one more than it has: nothing is done", b -> {
            b.feed(0, 0, 0, 0, 0);
            due("end(21)", b.end(21), NONE);
            due("about(6)", b.about(6), 20);
        });
        test(6, "one less than it has", b -> {
            b.feed(0, 0, 0, 0, 0);
            due("end(19)", b.end(19), 19);
            due("about(6)", b.about(6), 19);
            due("end(20), not so many any more", b.end(20), NONE);
        });
        test(6, "none of 300", b -> {
            for (int i = 0; i < 15; i++) {
                b.feed(0, 0, 0, 0, 0);
            }
            due("end(301)", b.end(301), NONE);
            due("end(300)", b.end(300), 300);
            due("end(0)", b.end(0), 0);
            due("about(6)", b.about(6), 0);
        });
        test(6, "far off", b -> {
            b.feed(0, 0, 0, 0, 0);
            due("end(least)", b.end(Cases.LEAST), NONE);
            due("end(most)", b.end(Cases.MOST), NONE);
            due("about(6)", b.about(6), 20);
        });
    }

    private static void text() {
        test(7, "an empty tape is a text of no clauses", b -> {
            due("text()", b.text(), 0);
            due("fault(0)", b.fault(0), 0);
            due("played(0)", b.played(0), NONE);
        });
        test(7, "blanks alone", b -> due("text()", Cases.read(b, " \n  \n"), 0));
        test(7, "the tape is empty then", b -> {
            Cases.read(b, "tips 1;");
            due("about(6)", b.about(6), 0);
        });
        test(7, "a fault: NONE, and no text comes of it", b -> {
            due("text()", Cases.read(b, "tips"), NONE);
            due("about(2)", b.about(2), 0);
        });
        test(7, "the tape is empty behind a fault, too", b -> {
            Cases.read(b, "tips");
            due("about(6)", b.about(6), 0);
        });
        test(7, "a fault takes no number", b -> {
            Cases.read(b, "tips");
            due("text()", Cases.read(b, "tips 1;"), 0);
        });
        test(7, "a text of 300 bytes", b -> {
            due("text()", Cases.read(b, "tips 7;" + " ".repeat(286) + "left 0;"), 0);
        });
        test(7, "a text of 300 bytes, full to the last", b -> {
            due("text()", Cases.read(b, "tips 7" + "+1".repeat(146) + "+;"), NONE);
            due("fault(0)", b.fault(0), 1);
            due("fault(1)", b.fault(1), 299);
        });
        test(7, "300 tokens of one byte each, at fault at once", b -> {
            due("text()", Cases.read(b, ";".repeat(300)), NONE);
            due("fault(0)", b.fault(0), 1);
            due("fault(1)", b.fault(1), 0);
        });
        test(7, "300 tokens of words and numbers by turns", b -> {
            due("text()", Cases.read(b, "a1".repeat(150)), NONE);
            due("fault(1)", b.fault(1), 0);
        });
        test(7, "as many tokens as a text without a fault can have", b -> {
            due("text()", Cases.read(b, "tips6" + "-1+1".repeat(73) + "+0;"), 0);
            b.by(0);
            due("is(3)", b.is(3), 6);
        });
        test(7, "long laws behind long laws", b -> {
            Cases.people(b, 1, 4);
            for (int i = 0; i < 4; i++) {
                due("text()", Cases.read(b, "tips " + (40 + i) + "-1+1".repeat(34) + ";slides " + i + "+1-1".repeat(34) + ";"), i);
                due("text()", i < 3 ? Cases.read(b, "tips 7" + "+1".repeat(146)) : NONE, NONE);
            }
            for (int i = 0; i < 4; i++) {
                b.by(i);
                due("is(3)", b.is(3), 40 + i);
                due("of(0, 3)", b.of(0, 3), i);
            }
        });
        test(7, "a law of 299 bytes", b -> {
            due("text()", Cases.read(b, "tips 0" + "+1".repeat(146) + ";"), 0);
            b.by(0);
            due("is(3), 99 at most", b.is(3), 99);
        });
        test(7, "a law of 300 bytes, each of them counted", b -> {
            due("text()", Cases.read(b, "tips 60" + "-1+1".repeat(73) + ";"), 0);
            b.by(0);
            due("is(3)", b.is(3), 60);
        });
    }

    private static void textFull() {
        test(7, "the fourth is 3", b -> {
            for (int i = 0; i < 4; i++) {
                due("text()", Cases.read(b, "tips 1;"), i);
            }
            due("about(2)", b.about(2), 4);
        });
        test(7, "there are 4: NONE, the tape stays", b -> {
            for (int i = 0; i < 4; i++) {
                Cases.read(b, "tips 1;");
            }
            due("text()", Cases.read(b, "tips 2;"), NONE);
            due("about(6)", b.about(6), 7);
            due("about(2)", b.about(2), 4);
            due("text(), again", b.text(), NONE);
            due("about(6)", b.about(6), 7);
        });
        test(7, "there are 4: the tape stays with a fault in it, too, which isn't read", b -> {
            for (int i = 0; i < 4; i++) {
                Cases.read(b, "tips 1;");
            }
            due("text()", Cases.read(b, "tips"), NONE);
            due("about(6)", b.about(6), 4);
            due("fault(0)", b.fault(0), 0);
            due("fault(1)", b.fault(1), NONE);
        });
        test(7, "there are 4 with an empty tape", b -> {
            for (int i = 0; i < 4; i++) {
                Cases.read(b, "");
            }
            due("text()", b.text(), NONE);
        });
        test(7, "there are 4 no more behind an image: the tape that stayed is read", b -> {
            Cases.read(b, "tips 1;");
            b.image();
            for (int i = 0; i < 3; i++) {
                Cases.read(b, "tips 2;");
            }
            due("text()", Cases.read(b, "tips 7;"), NONE);
            b.back();
            due("text()", b.text(), 1);
            due("by(1)", b.by(1), true);
            due("is(3)", b.is(3), 7);
        });
    }

    private static void faultAsked() {
        test(8, "ahead of any: 0", b -> due("fault(0)", b.fault(0), NONE));
        test(8, "ahead of any: 1", b -> due("fault(1)", b.fault(1), NONE));
        test(8, "ahead of any, though bytes were fed", b -> {
            Cases.feed(b, "x");
            due("fault(0)", b.fault(0), NONE);
        });
        test(8, "-1", b -> {
            Cases.read(b, "x");
            due("fault(-1)", b.fault(-1), NONE);
        });
        test(8, "2", b -> {
            Cases.read(b, "x");
            due("fault(2)", b.fault(2), NONE);
        });
        test(8, "far off", b -> {
            Cases.read(b, "x");
            due("fault(least)", b.fault(Cases.LEAST), NONE);
            due("fault(most)", b.fault(Cases.MOST), NONE);
        });
        test(8, "without a fault: 0 and NONE", b -> {
            Cases.read(b, "tips 1;");
            due("fault(0)", b.fault(0), 0);
            due("fault(1)", b.fault(1), NONE);
        });
        test(8, "of the latest: a fault behind a good text", b -> {
            Cases.read(b, "tips 1;");
            Cases.read(b, "left 4;");
            due("fault(0)", b.fault(0), 2);
            due("fault(1)", b.fault(1), 5);
        });
        test(8, "of the latest: a good text behind a fault", b -> {
            Cases.read(b, "left 4;");
            Cases.read(b, "tips 1;");
            due("fault(0)", b.fault(0), 0);
            due("fault(1)", b.fault(1), NONE);
        });
        test(8, "back leaves the latest fault", b -> {
            Cases.read(b, "left 4;");
            b.back();
            due("fault(0)", b.fault(0), 2);
            due("fault(1)", b.fault(1), 5);
        });
    }

    private static void tokenBlanks() {
        stands("blanks 32 and 10 between all", "\n tips\n\n 1 \n;\n ");
        stands("no blanks where letters, digits and signs meet", "tips1;person1at2;left0;");
        fault("13 is no blank", "tips\r1;", 1, 4);
        fault("9 is no blank", "tips\t1;", 1, 4);
        fault("11 is no blank", "tips 1;\u000b", 1, 7);
        fault("31 is no blank", "tips\u001f1;", 1, 4);
        fault("33 is no blank", "tips!1;", 1, 4);
        fault("0 is no blank", "tips 1;\0", 1, 7);
        fault("160 is no blank", "tips 1;\u00a0", 1, 7);
        fault("255 is none", "\u00ff", 1, 0);
        fault("a blank cuts a word", "ti ps 1;", 1, 0);
        fault("a blank cuts a number", "tips 1 2;", 1, 7);
    }

    private static void tokenLetters() {
        fault("A .. Z are letters, and unlike a .. z", "TIPS 1;", 1, 0);
        fault("a capital alone is unlike", "tipS 1;", 1, 0);
        fault("one letter more is another word", "tipss 1;", 1, 0);
        fault("one letter less is another word", "tip 1;", 1, 0);
        fault("Z is a letter", "tipsZ 1;", 1, 0);
        fault("A is a letter", "tipsA 1;", 1, 0);
        fault("z is a letter", "tipsz 1;", 1, 0);
        fault("a is a letter", "tipsa 1;", 1, 0);
        fault("64 is no letter: behind tips", "tips@ 1;", 1, 4);
        fault("91 is no letter: behind tips", "tips[ 1;", 1, 4);
        fault("96 is no letter: behind tips", "tips` 1;", 1, 4);
        fault("123 is no letter: behind tips", "tips{ 1;", 1, 4);
        fault("_ is no letter: behind tips", "tips_ 1;", 1, 4);
        fault("a letter above 127 is none", "tips\u00e9 1;", 1, 4);
        fault("a long word", "tips " + "a".repeat(290) + ";", 1, 5);
        fault("a word that is none, where a name may be", "tips tops;", 1, 5);
        stands("letters behind digits are another token", "tips if 1=1then 2else 3end;");
    }

    private static void tokenNumbers() {
        stands("0", "tips 0;");
        stands("9999", "tips 9999;");
        fault("10000 is above 9999", "tips 10000;", 2, 5);
        fault("a number of 20 digits", "tips 12345678901234567890;", 2, 5);
        fault("4294967297 is not 1 by a wrap-around", "left 4294967297;", 2, 5);
        fault("a number of 290 digits", "tips " + "9".repeat(290) + ";", 2, 5);
        stands("zeros ahead of 9999", "tips 0009999;");
        stands("290 zeros", "tips " + "0".repeat(290) + ";");
        fault("zeros ahead of 10000", "tips 000010000;", 2, 5);
        stands("zeros ahead of a place", "person 1 at 0008;");
        fault("47 (/) is no digit", "left 0/;", 1, 6);
        fault("58 (:) is no digit", "left 0:;", 1, 6);
        test(19, "zeros ahead change nothing", b -> {
            Cases.rule(b, "tips 000000000012;");
            due("is(3)", b.is(3), 12);
        });
        fault("a number below 0 is none: - can't stand there", "left -1;", 1, 5);
    }

    private static void tokenSigns() {
        tips("<= is one, the longest", "if 2<=2 then 5 else 6 end", 5);
        tips(">= is one, the longest", "if 2>=2 then 5 else 6 end", 5);
        fault("< = are two", "tips if 2< =2 then 5 else 6 end;", 1, 11);
        fault("> = are two", "tips if 2> =2 then 5 else 6 end;", 1, 11);
        fault("=< are two", "tips if 2=<2 then 5 else 6 end;", 1, 10);
        fault("=> are two", "tips if 2=>2 then 5 else 6 end;", 1, 10);
        fault("<> are two", "tips if 2<>2 then 5 else 6 end;", 1, 10);
        fault("== are two", "tips if 2==2 then 5 else 6 end;", 1, 10);
        fault("<== is <= and =", "tips if 2<==2 then 5 else 6 end;", 1, 11);
        fault("<<= is < and <=", "tips if 2<<=2 then 5 else 6 end;", 1, 10);
        fault("< at the very end", "tips if 2<", 1, 10);
        fault("<= at the very end", "tips if 2<=", 1, 11);
        for (String none : new String[] {"!", "\"", "$", "%", "&", "'", ",", ".", ":", "?", "@", "[", "\\", "]", "^", "_", "`", "{", "|", "}", "~"}) {
            fault("no token", "tips 1" + none + ";", 1, 6);
        }
        for (String sign : new String[] {"<=", ">=", "<", ">", "=", "#", "(", ")"}) {
            fault("a token that can't stand there", "tips 1" + sign + ";", 1, 6);
        }
    }

    private static void clauseNumbers() {
        stands("weight 1", "person 1 at 4;");
        stands("weight 9", "person 9 at 4;");
        fault("weight 0", "person 0 at 4;", 2, 7);
        fault("weight 10", "person 10 at 4;", 2, 7);
        stands("place 0 of a person", "person 1 at 0;");
        stands("place 8 of a person", "person 1 at 8;");
        fault("place 9 of a person", "person 1 at 9;", 2, 12);
        stands("person 0 with a goal", "goal 0 at 4;");
        stands("person 3 with a goal", "goal 3 at 4;");
        fault("person 4 with a goal", "goal 4 at 4;", 2, 5);
        stands("goal 0", "goal 0 at 0;");
        stands("goal 8", "goal 0 at 8;");
        fault("goal 9", "goal 0 at 9;", 2, 10);
        stands("person 0 to the left", "left 0;");
        stands("person 3 to the left", "left 3;");
        fault("person 4 to the left", "left 4;", 2, 5);
        stands("person 0 to the right", "right 0;");
        stands("person 3 to the right", "right 3;");
        fault("person 4 to the right", "right 4;", 2, 6);
        stands("shovel 1", "shovel 1 at 4;");
        stands("shovel 9", "shovel 9 at 4;");
        fault("shovel 0", "shovel 0 at 4;", 2, 7);
        fault("shovel 10", "shovel 10 at 4;", 2, 7);
        stands("shovel at 0", "shovel 1 at 0;");
        stands("shovel at 8", "shovel 1 at 8;");
        fault("shovel at 9", "shovel 1 at 9;", 2, 12);
        stands("hour 1", "hour 1;");
        stands("hour 60", "hour 60;");
        fault("hour 0", "hour 0;", 2, 5);
        fault("hour 61", "hour 61;", 2, 5);
        fault("hour 10000", "hour 10000;", 2, 5);
    }

    private static void clauseForms() {
        fault("person without a number", "person at 4;", 1, 7);
        fault("person without at", "person 1 4;", 1, 9);
        fault("person without a place", "person 1 at;", 1, 11);
        fault("goal without at", "goal 1;", 1, 6);
        fault("shovel without at", "shovel 1;", 1, 8);
        fault("left with at", "left 1 at 2;", 1, 7);
        fault("right with at", "right 1 at 2;", 1, 8);
        fault("hour with at", "hour 1 at 2;", 1, 7);
        fault("left without a number", "left;", 1, 4);
        fault("right with a name", "right who;", 1, 6);
        fault("hour with a sum", "hour 1+1;", 1, 6);
        fault("hour with ( )", "hour (1);", 1, 5);
        fault("tips without a sum", "tips;", 1, 4);
        fault("slides without a sum", "slides;", 1, 6);
        fault("a ; alone", ";", 1, 0);
        fault("two ;", "left 0;;", 1, 7);
        fault("a number alone", "7;", 1, 0);
        fault("a name alone", "snow;", 1, 0);
        fault("pair is no clause", "pair 0 1;", 1, 0);
        fault("years is no clause", "years 0 1;", 1, 0);
        fault("if is no clause", "if 1=1 then 1 else 2 end;", 1, 0);
        fault("at is no name", "tips at;", 1, 5);
        fault("tips is no name", "tips tips;", 1, 5);
        fault("person is no name", "slides person;", 1, 7);
        fault("+ of one is none", "tips +1;", 1, 5);
        fault("not is of no sum", "tips not 1;", 1, 5);
        fault("a question is no sum", "tips 1=1;", 1, 6);
        fault("() around nothing", "tips ();", 1, 6);
        fault("( ) around a question", "tips if (1=1) then 1 else 2 end;", 1, 10);
        fault("a sum is no question", "tips if 1 then 1 else 2 end;", 1, 10);
        fault("no then", "tips if 1=1 1 else 2 end;", 1, 12);
        fault("no else", "tips if 1=1 then 1 end;", 1, 19);
        fault("no end", "tips if 1=1 then 1 else 2;", 1, 25);
        fault("nothing behind then", "tips if 1=1 then else 2 end;", 1, 17);
        fault("nothing behind else", "tips if 1=1 then 1 else end;", 1, 24);
        fault("nothing behind or", "tips if 1=1 or then 1 else 2 end;", 1, 15);
        fault("nothing behind not", "tips if not then 1 else 2 end;", 1, 12);
        fault("nothing behind sign", "tips sign;", 1, 9);
        fault("nothing behind load", "tips load;", 1, 9);
        fault("nothing behind *", "tips 2*;", 1, 7);
        fault("nothing behind /", "tips 2/;", 1, 7);
    }

    private static void clauseCount() {
        stands("no clause", "");
        stands("24 clauses", TWENTY_FOUR);
        fault("the 25th, at its first token", TWENTY_FOUR + "left 0;", 6, 168);
        fault("the 25th behind blanks", TWENTY_FOUR + " \nleft 0;", 6, 170);
        fault("the 25th, whatever is behind its first token", TWENTY_FOUR + "hour", 6, 168);
        fault("the 25th, wrong in its number", TWENTY_FOUR + "hour 61;", 6, 168);
        fault("the 25th is a law for the first time", TWENTY_FOUR + "slides 1;", 6, 168);
        fault("the 25th is a law for the second time: 4 is less than 6", TWENTY_FOUR + "tips 1;", 4, 168);
        fault("the 25th begins with none that could: 1 is less than 6", TWENTY_FOUR + "snow 1;", 1, 168);
        fault("a ; behind 24", TWENTY_FOUR + ";", 1, 168);
        stands("blanks behind 24", TWENTY_FOUR + " \n ");
        fault("a fault in the 24th", "left 0;".repeat(23) + "left 4;left 0;", 2, 166);
        stands("laws are clauses: 22 and two laws", "left 0;".repeat(22) + "tips 1;slides 1;");
        fault("laws are clauses: 23 and two laws", "left 0;".repeat(23) + "tips 1;slides 1;", 6, 168);
    }

    private static void oncePerText() {
        stands("tips once, slides once", "tips 1;slides 1;");
        fault("tips twice, at the second", "tips 1;tips 2;", 4, 7);
        fault("slides twice, at the second", "slides 1;slides 2;", 4, 9);
        fault("tips, slides, tips", "tips 1;slides 1;tips 1;", 4, 16);
        fault("tips twice, whatever is behind it", "tips 1;tips", 4, 7);
        fault("slides twice far apart", "slides 1;left 0;hour 1;slides 1;", 4, 23);
        fault("tips in tips can't stand there", "tips 1+tips;", 1, 7);
        test(7, "each text may have its own", b -> {
            due("text()", Cases.read(b, "tips 1;"), 0);
            due("text()", Cases.read(b, "tips 2;"), 1);
        });
        test(7, "a law of a text with a fault is none of the next one's", b -> {
            due("text()", Cases.read(b, "tips 1;slides 2;left"), NONE);
            due("text()", Cases.read(b, "left 0;"), 0);
            Cases.people(b, 1, 4);
            b.by(0);
            due("is(3)", b.is(3), 9);
            due("of(0, 3)", b.of(0, 3), 1);
        });
    }

    private static void names() {
        for (String name : new String[] {"hour", "tip", "all", "snow"}) {
            stands("a name of both", "tips " + name + ";");
            stands("a name of both", "slides " + name + ";");
        }
        for (String name : new String[] {"who", "weight", "place"}) {
            stands("a name of slides", "slides " + name + ";");
            fault("a name that isn't of tips", "tips " + name + ";", 5, 5);
            fault("a name that isn't of tips, in load", "tips load " + name + ";", 5, 10);
            fault("a name that isn't of tips, behind slides", "slides " + name + ";tips " + name + ";", 5, 13 + name.length());
            fault("a name that can't stand there: 1 is less than 5", "tips 1 " + name + ";", 1, 7);
        }
        stands("slides behind tips has its names", "tips 1;slides who;");
        fault("a name in the branch that isn't chosen", "tips if 1=1 then 1 else who end;", 5, 24);
        fault("a name for a number", "left who;", 1, 5);
    }

    private static String opened(int n, String open, String inside, String close) {
        return "tips " + open.repeat(n) + inside + close.repeat(n) + ";";
    }

    private static void depth() {
        stands("8 of ( open", opened(8, "(", "1", ")"));
        fault("the 9th of (, at it", opened(9, "(", "1", ")"), 3, 13);
        fault("the 9th of (, whatever is behind it", "tips (((((((((", 3, 13);
        stands("8 of -", opened(8, "-", "1", ""));
        fault("the 9th of -", opened(9, "-", "1", ""), 3, 13);
        stands("- of two isn't counted", "tips ((((((((1-1))))))));");
        stands("- of two ahead of 8 of one", "tips 1---------1;");
        fault("- of two ahead of 9 of one", "tips 1----------1;", 3, 15);
        stands("8 of sign", opened(8, "sign ", "1", ""));
        fault("the 9th of sign", opened(9, "sign ", "1", ""), 3, 45);
        stands("8 of load", opened(8, "load ", "1", ""));
        fault("the 9th of load", opened(9, "load ", "1", ""), 3, 45);
        stands("8 of if", opened(8, "if 1=1 then ", "1", " else 2 end"));
        fault("the 9th of if", opened(9, "if 1=1 then ", "1", " else 2 end"), 3, 101);
        stands("if and 7 of not", "tips if " + "not ".repeat(7) + "1=1 then 1 else 2 end;");
        fault("if and 8 of not: the 9th, at it", "tips if " + "not ".repeat(8) + "1=1 then 1 else 2 end;", 3, 36);
        stands("8 open, then closed, then 8 again", "tips ((((((((1))))))))+((((((((1))))))));");
        stands("many side by side", "tips " + "(1)+".repeat(60) + "(1);");
        fault("8 open, one closed, 2 more", "tips ((((((((1)+((1))))))));", 3, 17);
        stands("8 open, one closed, 1 more", "tips ((((((((1)+(1))))))));");
    }

    private static void depthOfEach() {
        String seven = "(((((((";
        String closed = ")))))))";
        fault("7 open, if and ( in its question", "tips " + seven + "if (1)=1 then 1 else 2 end" + closed + ";", 3, 15);
        fault("7 open, if and ( behind then", "tips " + seven + "if 1=1 then (1) else 2 end" + closed + ";", 3, 24);
        fault("7 open, if and ( behind else", "tips " + seven + "if 1=1 then 1 else (2) end" + closed + ";", 3, 31);
        stands("7 open, if, then ( behind end", "tips " + seven + "if 1=1 then 1 else 2 end+(1)" + closed + ";");
        fault("7 open, if and not", "tips " + seven + "if not 1=1 then 1 else 2 end" + closed + ";", 3, 15);
        stands("6 open, if and not, and not", "tips ((((((if not 1=1 and not 1=2 or not 2=1 then 1 else 2 end))))));");
        fault("6 open, if, not and - in it", "tips ((((((if not 1=-1 then 1 else 2 end))))));", 3, 20);
        stands("6 open, if, not behind which - of one is outside of it", "tips ((((((if not 1=1 and -1=1 then 1 else 2 end))))));");
        fault("7 open, sign and -", "tips " + seven + "sign -1" + closed + ";", 3, 17);
        stands("7 open, sign, and - behind it", "tips " + seven + "sign 1+-1" + closed + ";");
        fault("7 open, load and (", "tips " + seven + "load (1)" + closed + ";", 3, 17);
        stands("7 open, load, and ( behind it", "tips " + seven + "load 1*(1)" + closed + ";");
        fault("in slides, too", "slides (((((((((1)))))))));", 3, 15);
        fault("the 9th where it can't stand: 1 is less than 3", "tips ((((((((1(", 1, 14);
        fault("not as the 9th in a sum can't stand there", "tips ((((((((not", 1, 13);
    }

    private static void firstFault() {
        fault("the first of two", "left 4;left", 2, 5);
        fault("the first of two, the other way", "left;left 4;", 1, 4);
        fault("a fault ahead of one at the end", "tips who", 5, 5);
        fault("a number too high where none can stand: 1 is less than 2", "tips 1 10000;", 1, 7);
        fault("a weight too high, then a place too high", "person 10 at 9;", 2, 7);
        fault("a place too high, then no ;", "person 9 at 9", 2, 12);
        fault("what is no token behind a fault", "left 4;!", 2, 5);
        fault("what is no token ahead of a fault", "!left 4;", 1, 0);
        fault("deep, then twice", "tips (((((((((1;tips 1;", 3, 13);
        fault("twice, then deep", "tips 1;tips (((((((((1;", 4, 7);
    }

    private static void faultAtEnd() {
        fault("of the end at the length", "tips 1", 1, 6);
        fault("of the end at the length, blanks too", "tips 1 \n ", 1, 9);
        fault("of the end behind a word", "tips", 1, 4);
        fault("of the end within ( )", "tips (1", 1, 7);
        fault("of the end within if", "tips if 1=1 then 1 else 2 end", 1, 29);
        fault("of the end behind at", "person 1 at", 1, 11);
        test(8, "of the end of 300 bytes at 300", b -> {
            due("text()", Cases.read(b, "tips 1" + " ".repeat(294)), NONE);
            due("fault(0)", b.fault(0), 1);
            due("fault(1)", b.fault(1), 300);
        });
        test(8, "the end is where the tape was cut", b -> {
            Cases.feed(b, "tips 1;");
            b.end(6);
            due("text()", b.text(), NONE);
            due("fault(1)", b.fault(1), 6);
        });
    }

    private static void tipsBounds() {
        tips("0 at least", "0-1", 0);
        tips("0 at least, far below", "-9999*9999", 0);
        tips("0 is 0", "0", 0);
        tips("99 is 99", "99", 99);
        tips("99 at most", "100", 99);
        tips("99 at most, far above", "9999*9999", 99);
        test(19, "without tips: 9", b -> {
            Cases.rule(b, "slides 2;");
            due("is(3)", b.is(3), 9);
        });
        test(19, "of an empty text: 9", b -> {
            Cases.rule(b, "");
            due("is(3)", b.is(3), 9);
        });
    }

    private static void slides(String sentence, String sum, int want) {
        test(17, sentence + ": " + sum, b -> {
            Cases.rule(b, "slides " + sum + ";");
            Cases.people(b, 5, 6);
            due("of(0, 3)", b.of(0, 3), want);
        });
    }

    private static void slidesBounds() {
        slides("0 at least", "0-1", 0);
        slides("0 at least, far below", "-9999*9999", 0);
        slides("0 is 0", "0", 0);
        slides("3 is 3", "3", 3);
        slides("3 at most", "4", 3);
        slides("3 at most, far above", "9999*9999", 3);
        test(17, "without slides: 1", b -> {
            Cases.rule(b, "tips 2;");
            Cases.people(b, 5, 6);
            due("of(0, 3)", b.of(0, 3), 1);
        });
        slides("who of person 0", "who", 0);
        slides("weight", "weight-3", 2);
        slides("place", "place-3", 3);
        test(17, "who of person 3", b -> {
            Cases.rule(b, "slides who;");
            Cases.people(b, 1, 4, 1, 4, 1, 4, 1, 4);
            due("of(3, 3)", b.of(3, 3), 3);
            due("of(2, 3)", b.of(2, 3), 2);
        });
    }

    private static void division() {
        tips("by 0 it is 0", "7/0", 0);
        tips("by 0 it is 0, and goes on", "7/0+5", 5);
        tips("0 by 0", "0/0+5", 5);
        tips("by a sum that is 0", "7/(3-3)+5", 5);
        tips("by 0 below 0", "-7/0+5", 5);
        tips("cuts towards 0", "7/2", 3);
        tips("cuts towards 0, below 0", "10+-7/2", 7);
        tips("cuts towards 0, by one below 0", "10+7/-2", 7);
        tips("cuts towards 0, both below 0", "-7/-2", 3);
        tips("by more than it is", "10+-1/2", 10);
        tips("from the left", "100/5/2", 10);
        tips("from the left, * and /", "7/2*2", 6);
        tips("from the left, -", "20-5-4", 11);
        tips("* ahead of -", "20-5*2", 10);
        tips("- of one ahead of *", "10+-2*3", 4);
    }

    private static void million() {
        tips("1000000 is not too much", "1000*1000/2000/10", 50);
        tips("above 1000000 is that, of *", "1001*1000/2000/10", 50);
        tips("above 1000000 is that, of +", "(1000*1000+9999)/2000/10", 50);
        tips("above 1000000 is that, of -", "(1000*1000-(0-9999))/2000/10", 50);
        tips("above it and back again, by steps", "1000*1000+1-1000*999-990", 10);
        tips("below -1000000 is that, of *", "-1001*1000/-2000/10", 50);
        tips("below -1000000 is that, of +", "(-1000*1000+-9999)/-2000/10", 50);
        tips("below -1000000 is that, of -", "(-1000*1000-9999)/-2000/10", 50);
        tips("below it and back again, by steps", "-1000*1000-1+1000*999+1010", 10);
        tips("no wrap-around of 9999 * 9999 * 9999", "9999*9999*9999/2000/10", 50);
        tips("no wrap-around of 1000000 * 1000000", "(9999*9999)*(9999*9999)/2000/10", 50);
        tips("no wrap-around below 0", "(9999*9999)*-(9999*9999)/-2000/10", 50);
        tips("- of 1000000", "--(9999*9999)/2000/10", 50);
        tips("999999 is not cut", "(1000*1000-1)/5000/2", 99);
        tips("999999 is not cut, exactly", "999*1001-9999*100-90", 9);
    }

    private static void sign() {
        tips("1 of one above 0", "sign 1", 1);
        tips("1 of one far above 0", "sign (9999*9999)", 1);
        tips("0 of 0", "sign 0+5", 5);
        tips("-1 below 0", "sign -1+5", 4);
        tips("-1 far below 0", "sign (-9999*9999)+5", 4);
        tips("of one ONE alone", "sign 5+5", 6);
        tips("of one ONE alone, ahead of *", "sign 5*7", 7);
    }

    private static void loads(String sentence, String sum, int want) {
        test(19, sentence + ": " + sum, b -> {
            Cases.people(b, 2, 0, 3, 8, 4, 7, 5, 7);
            Cases.rule(b, "tips 99;");
            b.hour(1); // snow in place 7
            Cases.rule(b, "tips " + sum + ";");
            due("is(3)", b.is(3), want);
        });
    }

    private static void load() {
        loads("place 0", "load 0", 2);
        loads("place 8", "load 8", 3);
        loads("snow too, and all who are there", "load 7", 10);
        loads("an empty place", "load 4+5", 5);
        loads("0 for place -1", "load -1+5", 5);
        loads("0 for place 9", "load 9+5", 5);
        loads("0 for 9999", "load 9999+5", 5);
        loads("0 for 1000000", "load (9999*9999)+5", 5);
        loads("0 for -1000000", "load -(9999*9999)+5", 5);
        loads("of a load", "load load 0+5", 5);
        loads("of ONE alone", "load 7+1", 11);
        loads("of ( )", "load (7+1)", 3);
    }

    private static void comparisons() {
        String[] signs = {"<", "<=", ">", ">=", "=", "#"};
        int[][] holds = {{1, 0, 0}, {1, 1, 0}, {0, 0, 1}, {0, 1, 1}, {0, 1, 0}, {1, 0, 1}};
        for (int s = 0; s < signs.length; s++) {
            for (int k = 0; k < 3; k++) {
                tips("one below, like, one above", "if " + (4 + k) + signs[s] + "5 then 1 else 2 end", holds[s][k] == 1 ? 1 : 2);
                tips("below 0, too", "if " + (k - 2) + signs[s] + "-1 then 1 else 2 end", holds[s][k] == 1 ? 1 : 2);
            }
        }
        tips("at 1000000", "if 9999*9999=1000*1000 then 1 else 2 end", 1);
    }

    /** Every two comparisons, each true and false, joined by or and by and, and denied. */
    private static void joinedComparisons() {
        String[] hold = {"1<2", "2<=2", "2>1", "2>=2", "2=2", "1#2"};
        String[] fail = {"2<2", "3<=2", "2>2", "1>=2", "1=2", "2#2"};
        for (int one = 0; one < hold.length; one++) {
            for (int other = 0; other < hold.length; other++) {
                joined(hold[one], hold[other], true, true);
                joined(hold[one], fail[other], true, false);
                joined(fail[one], hold[other], false, true);
                joined(fail[one], fail[other], false, false);
            }
        }
    }

    private static void joined(String one, String other, boolean first, boolean last) {
        tips("either", "if " + one + " or " + other + " then 1 else 2 end", first || last ? 1 : 2);
        tips("both", "if " + one + " and " + other + " then 1 else 2 end", first && last ? 1 : 2);
        tips("either, the first denied", "if not " + one + " or " + other + " then 1 else 2 end", !first || last ? 1 : 2);
        tips("both, the last denied", "if " + one + " and not " + other + " then 1 else 2 end", first && !last ? 1 : 2);
    }

    /** Eight of if are open, in each of which or, and, a question, a sum and a product wait for what is inside. */
    private static void deepestLaw() {
        String ahead = "5+2*" + "if0>1or1>0and0<1-1*".repeat(8);
        String behind = " then1else0end".repeat(8);
        tips("the innermost 0 turns eight times", ahead + "0" + behind, 5);
        tips("the innermost 1 turns eight times", ahead + "1" + behind, 7);
    }

    private static void choices() {
        tips("just the chosen SUM: then", "if 1=1 then 5 else 7/0 end", 5);
        tips("just the chosen SUM: else", "if 1=2 then 7/0 else 5 end", 5);
        tips("or of none", "if 1=2 or 1=2 then 1 else 2 end", 2);
        tips("or of the first", "if 1=1 or 1=2 then 1 else 2 end", 1);
        tips("or of the last", "if 1=2 or 1=1 then 1 else 2 end", 1);
        tips("or of both", "if 1=1 or 1=1 then 1 else 2 end", 1);
        tips("and of none", "if 1=2 and 1=2 then 1 else 2 end", 2);
        tips("and of the first", "if 1=1 and 1=2 then 1 else 2 end", 2);
        tips("and of the last", "if 1=2 and 1=1 then 1 else 2 end", 2);
        tips("and of both", "if 1=1 and 1=1 then 1 else 2 end", 1);
        tips("and ahead of or", "if 1=1 or 1=1 and 1=2 then 1 else 2 end", 1);
        tips("and ahead of or, at the first", "if 1=2 and 1=1 or 1=1 then 1 else 2 end", 1);
        tips("not of one ASK alone", "if not 1=2 and 1=2 then 1 else 2 end", 2);
        tips("not of one that holds", "if not 1=1 then 1 else 2 end", 2);
        tips("not of one that doesn't", "if not 1=2 then 1 else 2 end", 1);
        tips("not of the first of two", "if not 1=1 or 1=1 then 1 else 2 end", 1);
        tips("not of the last of two", "if 1=1 and not 1=1 then 1 else 2 end", 2);
        tips("not seven times", "if not not not not not not not 1=1 then 1 else 2 end", 2);
        tips("not not", "if not not 1=1 then 1 else 2 end", 1);
        tips("an if in an if", "if 1=2 then 1 else if 1=1 then 2 else 3 end end", 2);
        tips("an if in a question", "if if 1=1 then 4 else 5 end=4 then 1 else 2 end", 1);
        tips("five ors, the last alone holds", "if 1=2 or 1=2 or 1=2 or 1=2 or 1=1 then 1 else 2 end", 1);
        tips("five ands, the last alone fails", "if 1=1 and 1=1 and 1=1 and 1=1 and 1=2 then 1 else 2 end", 2);
    }

    private static void nameValues() {
        tips("hour of a new beam", "hour+5", 5);
        tips("all of a bare beam", "all+5", 5);
        tips("snow of a bare beam", "snow+5", 5);
        tips("tip of a bare beam", "tip+5", 5);
        test(19, "tip below 0", b -> {
            Cases.people(b, 9, 0);
            Cases.rule(b, "tips -tip;");
            due("is(3)", b.is(3), 36);
        });
        test(19, "hour 9999", b -> {
            Cases.pass(b, 9999);
            Cases.rule(b, "tips hour-9980;");
            due("is(3)", b.is(3), 19);
        });
        test(19, "all: people and snow, snow: snow alone", b -> {
            Cases.people(b, 4, 4);
            b.hour(2);
            Cases.rule(b, "tips all*10+snow;");
            due("is(3)", b.is(3), 62);
        });
        test(19, "snow at its most", b -> {
            Cases.pass(b, 300);
            Cases.rule(b, "tips snow;");
            due("is(3)", b.is(3), 81);
        });
    }

    private static void playedNumbers() {
        test(14, "no texts", b -> due("played(0)", b.played(0), -2));
        test(14, "NONE", b -> {
            Cases.read(b, "hour 1;");
            due("played(NONE)", b.played(NONE), -2);
            due("is(0)", b.is(0), 0);
        });
        test(14, "the text behind the last", b -> {
            Cases.read(b, "hour 1;");
            due("played(1)", b.played(1), -2);
        });
        test(14, "text 3 and text 4", b -> {
            for (int i = 0; i < 4; i++) {
                Cases.read(b, "hour 1;");
            }
            due("played(3)", b.played(3), NONE);
            due("played(4)", b.played(4), -2);
            due("is(0)", b.is(0), 1);
        });
        test(14, "far off", b -> {
            Cases.read(b, "hour 1;");
            due("played(least)", b.played(Cases.LEAST), -2);
            due("played(most)", b.played(Cases.MOST), -2);
        });
        test(14, "an empty text: all is done", b -> {
            b.text();
            due("played(0)", b.played(0), NONE);
            due("about(4)", b.about(4), 0);
        });
        test(14, "laws alone: all is done, and they don't rule by it", b -> {
            Cases.read(b, "tips 1;slides 2;");
            due("played(0)", b.played(0), NONE);
            due("is(3)", b.is(3), 9);
            due("about(3)", b.about(3), NONE);
            due("about(4)", b.about(4), 0);
        });
        test(14, "24 clauses", b -> {
            Cases.read(b, "hour 1;".repeat(24));
            due("played(0)", b.played(0), NONE);
            due("is(0)", b.is(0), 24);
        });
        test(14, "the 24th can't be", b -> {
            Cases.read(b, "hour 1;".repeat(23) + "left 0;");
            due("played(0)", b.played(0), 23);
            due("is(0)", b.is(0), 23);
        });
    }

    private static void playedRefused() {
        test(14, "a fifth person", b -> {
            Cases.read(b, "person 1 at 4;".repeat(5));
            due("played(0)", b.played(0), 4);
            due("about(0)", b.about(0), 4);
        });
        test(14, "a goal of one not told", b -> {
            Cases.read(b, "goal 0 at 4;");
            due("played(0)", b.played(0), 0);
        });
        test(14, "a goal of one told just ahead", b -> {
            Cases.read(b, "person 1 at 4;goal 0 at 8;");
            due("played(0)", b.played(0), NONE);
            due("of(0, 2)", b.of(0, 2), 8);
        });
        test(14, "left beyond the end", b -> {
            Cases.read(b, "person 1 at 1;left 0;left 0;right 0;");
            due("played(0)", b.played(0), 2);
            due("of(0, 1)", b.of(0, 1), 0);
        });
        test(14, "right beyond the end", b -> {
            Cases.read(b, "person 1 at 7;right 0;right 0;left 0;");
            due("played(0)", b.played(0), 2);
            due("of(0, 1)", b.of(0, 1), 8);
        });
        test(14, "right to 9 and to 10", b -> {
            Cases.read(b, "person 9 at 4;right 0;person 1 at 4;right 1;");
            due("played(0)", b.played(0), 3);
            due("of(0, 1)", b.of(0, 1), 5);
        });
        test(14, "more snow than there is", b -> {
            Cases.read(b, "hour 1;shovel 2 at 7;hour 1;");
            due("played(0)", b.played(0), 1);
            due("is(0)", b.is(0), 1);
        });
        test(14, "as much snow as there is", b -> {
            Cases.read(b, "hour 1;shovel 1 at 7;");
            due("played(0)", b.played(0), NONE);
            due("place(7, 0)", b.place(7, 0), 0);
        });
        test(14, "its number is among all clauses, laws too", b -> {
            Cases.read(b, "tips 1;slides 2;left 0;");
            due("played(0)", b.played(0), 2);
        });
        test(14, "by the law that rules, not by its own", b -> {
            Cases.read(b, "person 5 at 4;tips 0;right 0;");
            due("played(0)", b.played(0), NONE);
            due("of(0, 1)", b.of(0, 1), 5);
        });
        test(14, "by its own law, if that rules", b -> {
            Cases.rule(b, "person 5 at 4;right 0;tips 4;");
            due("played(0)", b.played(0), 1);
            due("of(0, 1)", b.of(0, 1), 4);
        });
        test(14, "what was done stays, what follows isn't done", b -> {
            Cases.read(b, "person 2 at 3;left 3;person 3 at 4;");
            due("played(0)", b.played(0), 1);
            due("about(0)", b.about(0), 1);
        });
    }

    private static void playedHours() {
        test(14, "hour 60 with 60 left", b -> {
            Cases.pass(b, 9939);
            due("played()", b.played(Cases.read(b, "hour 60;")), NONE);
            due("is(0)", b.is(0), 9999);
        });
        test(14, "hour 60 with 59 left: those that can pass do", b -> {
            Cases.pass(b, 9940);
            due("played()", b.played(Cases.read(b, "tips 1;hour 60;person 1 at 4;")), 1);
            due("is(0)", b.is(0), 9999);
            due("about(0)", b.about(0), 0);
        });
        test(14, "hour 1 at 9999", b -> {
            Cases.pass(b, 9999);
            int x = b.is(1);
            due("played()", b.played(Cases.read(b, "hour 1;")), 0);
            due("is(0)", b.is(0), 9999);
            due("is(1)", b.is(1), x);
        });
        test(14, "hour 2 at 9998: one passes", b -> {
            Cases.pass(b, 9998);
            due("played()", b.played(Cases.read(b, "hour 2;")), 0);
            due("is(0)", b.is(0), 9999);
        });
        test(14, "hours slip as by hand", b -> {
            Cases.read(b, "person 9 at 6;hour 1;");
            due("played(0)", b.played(0), NONE);
            due("of(0, 1)", b.of(0, 1), 7);
            due("book(NONE, 0)", b.book(NONE, 0), 1);
        });
    }

    private static void playedSteps() {
        test(14, "each going, shovelling and hour is a step", b -> {
            Cases.read(b, "person 1 at 4;goal 0 at 5;right 0;left 0;hour 3;shovel 1 at 7;");
            due("played(0)", b.played(0), NONE);
            due("about(4)", b.about(4), 6);
            due("undo()", b.undo(), 5);
            due("place(7, 0)", b.place(7, 0), 1);
            due("is(0)", b.is(0), 3);
        });
        test(14, "60 hours leave 30 steps", b -> {
            Cases.read(b, "hour 60;");
            b.played(0);
            due("about(4)", b.about(4), 30);
        });
        test(14, "one that can't be is no step", b -> {
            Cases.read(b, "person 1 at 0;left 0;");
            b.played(0);
            due("about(4)", b.about(4), 0);
        });
        test(14, "twice", b -> {
            Cases.read(b, "person 1 at 4;right 0;");
            due("played(0)", b.played(0), NONE);
            due("played(0)", b.played(0), NONE);
            due("of(0, 1)", b.of(0, 1), 6);
            due("of(1, 1)", b.of(1, 1), 4);
        });
    }
}
