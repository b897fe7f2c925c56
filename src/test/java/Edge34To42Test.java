/** The boundaries of promises 34 to 42: draws, a LOG, a SENTENCE, images, counts. See EdgeHelp. */
public final class Edge34To42Test extends EdgeHelp {
    // ---- Promise 34: drawn

    private static final String DRAWN = "sort s;person m 9;person n 9;porter r 9 0;porter q 9 0;"
            + "pain a m s 1 200;pain b m s 2 200;";

    static void promise34_notAsTold() {
        PainPorters x = of(DRAWN);
        for (int n : new int[] {0, -1, LOW, 61, HIGH}) {
            due("drawn(" + n + ", 1)", x.drawn(n, 1), NONE);
        }
        due("none went by", x.now(0), 0);
        due("nothing was done", x.undo(), NONE);
    }

    static void promise34_1To60() {
        PainPorters x = of(DRAWN);
        due("drawn(1, 1)", x.drawn(1, 1), 1);
        due("drawn(60, 1)", x.drawn(60, 1), 60);
        due("now(0)", x.now(0), 61);
    }

    static void promise34_noPortersOrNoPains() {
        PainPorters x = of("sort s;person m 9;pain a m s 1 9;");
        due("no PORTERS", x.drawn(1, 1), NONE);
        due("none went by", x.now(0), 0);
        PainPorters y = of("sort s;person m 9;porter r 9 0;");
        due("no PAINS", y.drawn(1, 1), NONE);
        due("none went by", y.now(0), 0);
    }

    static void promise34_painsThatAreOverArePainsStill() {
        PainPorters x = of("sort s;person m 9;porter r 9 0;pain a m s 1 1;pain b m s 1 1;pain c m s 1 9;");
        x.hours(1);
        due("drawn", x.drawn(1, seedOf(4, 0, 3, 2)), 1);
        due("the third of three", x.pain(2, 4), 10);
        due("drawn", x.drawn(1, seedOf(4, 0, 3, 0)), 1);
        due("over still", x.pain(0, 4), 30);
        passTo(x, 20);
        due("all are over", x.drawn(5, 1), 5);
    }

    static void promise34_asManyAsAreLeft() {
        PainPorters x = of(DRAWN);
        passTo(x, 595);
        due("five are left", x.drawn(60, 1), 5);
        due("now(0)", x.now(0), 600);
        due("none are left", x.drawn(60, 1), 0);
        due("not as told", x.drawn(61, 1), NONE);
    }

    static void promise34_0HeFetchesIfHeCan() {
        PainPorters x = of(DRAWN);
        due("drawn", x.drawn(1, seedOf(4, 0, 2, 1, 4, 3)), 1);
        due("the second PAIN", x.pain(1, 4), 10);
        due("not the first", x.pain(0, 4), 0);
        due("paid for in the same HOUR", x.pain(1, 6), 1);
        PainPorters y = of("sort s fixed;person m 9;porter r 9 0;pain a m s 1 200;pain b m s 2 200;");
        y.drawn(1, seedOf(4, 0, 2, 1));
        due("he can't", y.now(6), 0);
        PainPorters z = of("sort s;person m 0;porter r 9 1;pain a m s 1 200;pain b m s 2 200;");
        z.drawn(1, seedOf(4, 0, 2, 1));
        due("too little coin", z.now(6), 0);
    }

    static void promise34_1HeDropsIfHeHasIt() {
        PainPorters x = of(DRAWN);
        x.hours(1);
        x.fetch(0, 0);
        x.fetch(1, 1);
        int seed = seedOf(4, 1, 2, 0, 4, 1, 2, 0);
        x.drawn(1, seed);
        due("the first drops it, the second has it not", x.pain(0, 5), 1);
        due("it fell in HOUR 1", x.pain(0, 4), 1);
        due("the other stays", x.pain(1, 4), 11);
        due("not dropped", x.pain(1, 5), 0);
    }

    static void promise34_2HeHandsIfHeCanAndNotToHimself() {
        PainPorters x = of(DRAWN);
        x.fetch(0, 0);
        x.drawn(1, seedOf(4, 2, 2, 0, 2, 0, 4, 3));
        due("not to himself", x.pain(0, 4), 10);
        x.drawn(1, seedOf(4, 2, 2, 1, 2, 1, 4, 3));
        due("one that he has not", x.pain(1, 4), 0);
        x.drawn(1, seedOf(4, 2, 2, 0, 2, 1, 4, 3));
        due("to the other", x.pain(0, 4), 11);
        PainPorters y = of("sort s;person m 9;porter r 9 0;porter q 9 0;bars q s;pain a m s 1 200;pain b m s 2 200;");
        y.fetch(0, 0);
        y.drawn(1, seedOf(4, 2, 2, 0, 2, 1, 4, 3));
        due("barred to the other", y.pain(0, 4), 10);
    }

    static void promise34_3IsNothingWithNoDrawMore() {
        PainPorters x = of(DRAWN);
        x.drawn(1, seedOf(4, 3, 4, 0, 2, 1));
        due("the second PORTER's draw is the next", x.pain(1, 4), 11);
    }

    static void promise34_porterByPorter() {
        PainPorters x = of(DRAWN);
        x.drawn(1, seedOf(4, 0, 2, 0, 4, 0, 2, 0));
        due("the first is ahead", x.pain(0, 4), 10);
        PainPorters y = of(DRAWN);
        y.drawn(1, seedOf(4, 0, 2, 0, 4, 0, 2, 1));
        due("both", y.now(6), 3);
    }

    static void promise34_theDrawsGoOnFromHourToHour() {
        PainPorters x = of(DRAWN);
        x.drawn(2, seedOf(4, 3, 4, 3, 4, 0, 2, 1, 4, 3));
        due("in the second HOUR", x.pain(1, 4), 10);
        due("paid for", x.pain(1, 6), 1);
    }

    static void promise34_eachCallBeginsWithItsSeed() {
        PainPorters x = of(DRAWN);
        PainPorters y = of(DRAWN);
        x.drawn(5, 77);
        x.undo();
        x.drawn(20, 99);
        y.drawn(20, 99);
        due("all", look(x), look(y));
    }

    static void promise34_theShiftIsWithoutASign() {
        // 3 PAINS, and a first x below 0 with a draw of 0, then one below 0 with a draw of 1.
        for (int seed = 0; seed < 100000; seed++) {
            int first = seed * 1103515245 + 12345;
            int second = first * 1103515245 + 12345;
            if (first < 0 && second < 0 && (first >>> 8) % 4 == 0 && (second >>> 8) % 3 == 1 && (second >> 8) % 3 != -1) {
                PainPorters x = of("sort s;person m 9;porter r 9 0;pain a m s 1 99;pain b m s 1 99;pain c m s 1 99;");
                x.drawn(1, seed);
                due("with PORTERS", x.now(6), 2);
                return;
            }
        }
        due("a seed of the test", 0, 1);
    }

    static void promise34_anySeed() {
        PainPorters x = of(DRAWN);
        for (int seed : new int[] {LOW, LOW + 1, -1, 0, 1, HIGH}) {
            due("drawn(2, " + seed + ")", x.drawn(2, seed), 2);
        }
    }

    // ---- Promise 35: odds

    static void promise35_noSuchOnes() {
        PainPorters x = of(DRAWN);
        due("odds(2, 1, 1)", x.odds(2, 1, 1), NONE);
        for (int m : NO_SUCH) {
            due("odds(" + m + ", 1, 1)", x.odds(m, 1, 1), NONE);
        }
        for (int n : new int[] {0, -1, LOW, 31, HIGH}) {
            due("odds(0, " + n + ", 1)", x.odds(0, n, 1), NONE);
        }
    }

    static void promise35_noPortersOrNoPains() {
        due("no PORTERS", of("sort s;person m 9;pain a m s 1 9;").odds(0, 1, 1), NONE);
        due("no PAINS", of("sort s;person m 9;porter r 9 0;").odds(0, 1, 1), NONE);
    }

    static void promise35_noneAndAll() {
        PainPorters x = of("sort s;sort f fixed;person m 9;person n 9;porter r 9 0;pain a m f 1 11;");
        due("it can't be lifted", x.odds(0, 30, 5), 0);
        due("he has none", x.odds(1, 30, 5), 30);
        due("one seed", x.odds(1, 1, 5), 1);
        x.hours(1);
        due("behind 10 HOURS it is over", x.odds(0, 30, 5), 30);
    }

    static void promise35_theSeedsOneByOneWrappingAround() {
        PainPorters x = of("sort s;person m 9;porter r 9 0;pain a m s 1 200;");
        int all = 0;
        for (int i = 0; i < 30; i++) {
            int one = x.odds(0, 1, HIGH - 14 + i);
            x.drawn(10, HIGH - 14 + i);
            due("one seed", one, x.person(0, 2) == 0 ? 1 : 0);
            x.undo();
            all += one;
        }
        due("30 seeds", x.odds(0, 30, HIGH - 14), all);
        due("some are free, some are not", all > 0 && all < 30, true);
        due("all stays", x.now(0), 0);
        due("nothing was done", x.undo(), NONE);
    }

    static void promise35_asManyHoursAsAreLeft() {
        PainPorters x = of(DRAWN);
        passTo(x, 600);
        due("none are left", x.odds(0, 3, 1), 3);
        due("now(0)", x.now(0), 600);
    }

    // ---- Promise 36: log

    static void promise36_anotherLives() {
        PainPorters x = of(SMALL);
        type(x, "hour 1;");
        for (int lives : new int[] {LOW, -1, 2, 3, HIGH}) {
            due("log(" + lives + ")", x.log(lives), -1000);
        }
        due("the tape stays", x.count(5), 7);
        due("logged(0)", x.logged(0), NONE);
        due("it can be judged still", x.log(0), NONE);
    }

    static void promise36_theTapeIsEmptyThen() {
        PainPorters x = of(SMALL);
        log(x, "hour 1;", 0);
        due("judged", x.count(5), 0);
        log(x, "hour 1;", 1);
        due("lived", x.count(5), 0);
        log(x, "hour", 0);
        due("a FAULT", x.count(5), 0);
        log(x, "leg home;", 1);
        due("WRONG", x.count(5), 0);
    }

    static void promise36_anEmptyLog() {
        PainPorters x = of(SMALL);
        x.hours(2);
        due("of no bytes", x.log(0), NONE);
        due("logged", x.logged(0) + 10 * x.logged(1) + 100 * x.logged(2), 200);
        due("of blanks", log(x, " \n ", 1), NONE);
        due("now(0)", x.now(0), 2);
        due("in an empty TOWN", new PainPorters().log(1), NONE);
        due("one that is WRONG", log(x, "leg home;", 0), 0);
        due("an empty one behind it", x.log(0), NONE);
        due("logged(0)", x.logged(0), 0);
    }

    static void promise36_judgedAllStays() {
        PainPorters x = of(SMALL);
        x.fetch(1, 3);
        String before = look(x);
        due("judged", log(x, "pim fetches tooth;hour 3;rex drops burn;burn home;hour 60;", 0), 2);
        due("all", look(x), before);
        due("one act", x.undo(), 0);
    }

    static void promise36_livedAsFarAsItIsNotWrong() {
        PainPorters x = of(SMALL);
        due("the LINE that is WRONG", log(x, "pim fetches tooth;hour 1;pim fetches loss;hour 5;", 1), 2);
        due("now(0)", x.now(0), 1);
        due("with PORTERS", x.now(6), 1);
        due("the first LINE is WRONG", log(x, "leg home;hour 1;", 1), 0);
        due("now(0)", x.now(0), 1);
        due("none is", log(x, "pim drops tooth;tooth home;hour 1;", 1), NONE);
        due("now(0)", x.now(0), 2);
    }

    static void promise36_aFaultLivesNothing() {
        PainPorters x = of(SMALL);
        due("log(1)", log(x, "hour 5;hour 0;", 1), -2 - 12);
        due("now(0)", x.now(0), 0);
        due("a FAULT behind a WRONG LINE", log(x, "leg home;!", 1), -2 - 9);
    }

    static void promise36_40Lines() {
        goodLog(times(40, "hour 1;"), NONE, 0);
        badLog(times(41, "hour 1;"), 280, 4);
        badLog(times(40, "hour 1;") + " pim", 281, 4);
        badLog(times(40, "hour 1;") + "tooth home;", 280, 4);
        PainPorters x = of(SMALL);
        due("all are lived", log(x, times(40, "hour 1;"), 1), NONE);
        due("now(0)", x.now(0), 40);
        due("LINES", x.logged(1), 40);
    }

    static void promise36_400Bytes() {
        goodLog(wide(400, "hour 1;"), NONE, 0);
        goodLog("hour 1;" + times(393, " "), NONE, 0);
        badLog(wide(401, "hour 1;"), 400, 1);
        badLog("hour 1;" + times(394, " "), 400, 1);
        badLog(times(401, " "), 400, 1);
        badLog(times(940, " "), 400, 1);
    }

    static void promise36_tokensThatBeginAheadOf400AreReadWhole() {
        badLog(times(399, " ") + "pim fetches zed;", 400, 1);
        badLog(times(399, " ") + "zed home;", 399, 3);
        badLog(times(394, " ") + "hour 61;", 399, 2);
        badLog(times(395, " ") + "hour 61;", 400, 1);
        badLog(times(399, " ") + "home;", 399, 1);
    }

    static void promise36_hourOf1To60() {
        goodLog("hour 1;", NONE, 0);
        goodLog("hour 60;", NONE, 0);
        badLog("hour 0;", 5, 2);
        badLog("hour 61;", 5, 2);
        badLog("hour 1000;", 5, 1);
        badLog("hour;", 4, 1);
        badLog("hour x;", 5, 1);
    }

    static void promise36_namesOfTheirSort() {
        badLog("ann fetches tooth;", 0, 3);
        badLog("ache fetches tooth;", 0, 3);
        badLog("zed fetches tooth;", 0, 3);
        badLog("pim fetches rex;", 12, 3);
        badLog("pim drops ann;", 10, 3);
        badLog("pim drops zed;", 10, 3);
        badLog("pim hands rex tooth;", 10, 3);
        badLog("pim hands tooth ann;", 16, 3);
        badLog("pim hands tooth tooth;", 16, 3);
        badLog("pim hands tooth zed;", 16, 3);
        badLog("ann home;", 0, 3);
    }

    static void promise36_tokensThatCantCome() {
        badLog(";", 0, 1);
        badLog("hour 1;;", 7, 1);
        badLog("hour 1", 6, 1);
        badLog("hour 1 1;", 7, 1);
        badLog("pim", 3, 1);
        badLog("pim;", 3, 1);
        badLog("pim home;", 4, 1);
        badLog("pim tooth;", 4, 1);
        badLog("tooth;", 5, 1);
        badLog("tooth drops pim;", 6, 1);
        badLog("tooth home home;", 11, 1);
        badLog("pim fetches;", 11, 1);
        badLog("pim fetches tooth rex;", 18, 1);
        badLog("pim drops home;", 10, 1);
        badLog("pim hands tooth;", 15, 1);
        badLog("pim hands tooth 1;", 16, 1);
        badLog("fetches pim tooth;", 0, 1);
        badLog("sort a;", 0, 1);
        badLog("1;", 0, 1);
    }

    static void promise36_thePlaceOfAFaultAt0IsMinus2() {
        PainPorters x = of(SMALL);
        due("log(0)", log(x, "!", 0), -2);
        due("log(0) of an empty one", x.log(0), NONE);
    }

    // ---- Promise 37: logged

    private static void dueLogged(PainPorters x, int why, int lines, int hour, int painless) {
        due("logged(0)", x.logged(0), why);
        due("logged(1)", x.logged(1), lines);
        due("logged(2)", x.logged(2), hour);
        due("logged(3)", x.logged(3), painless);
    }

    static void promise37_aheadOfAny() {
        PainPorters x = of(SMALL);
        dueLogged(x, NONE, NONE, NONE, NONE);
        log(x, "hour", 0);
        dueLogged(x, NONE, NONE, NONE, NONE);
        x.log(2);
        dueLogged(x, NONE, NONE, NONE, NONE);
    }

    static void promise37_anotherWhat() {
        PainPorters x = of(SMALL);
        log(x, "hour 1;", 0);
        due("logged(4)", x.logged(4), NONE);
        for (int what : NO_SUCH) {
            due("logged(" + what + ")", x.logged(what), NONE);
        }
    }

    static void promise37_theLatestWithoutAFault() {
        PainPorters x = of(SMALL);
        log(x, "hour 9;hour 1;", 0);
        dueLogged(x, 0, 2, 10, 3);
        log(x, "hour 1;hour", 1);
        type(x, "hour 1;");
        x.log(7);
        dueLogged(x, 0, 2, 10, 3);
        log(x, "leg home;", 0);
        dueLogged(x, 31, 0, 0, 0);
    }

    static void promise37_asForFetching() {
        goodLog("pim fetches tooth;rex fetches tooth;", 1, 1);
        goodLog("pim fetches leg;", 0, 2);
        goodLog("rex fetches loss;", 0, 2);
        goodLog("pim fetches tooth;pim fetches loss;", 1, 3);
        goodLog("pim fetches tooth;pim fetches burn;", 1, 4);
        goodLog("rex fetches burn;hour 1;burn home;rex fetches burn;", 3, 5);
    }

    static void promise37_10MoreAsForHanding() {
        goodLog("pim hands tooth rex;", 0, 11);
        goodLog("pim fetches loss;pim hands loss rex;", 1, 12);
        goodLog("pim fetches loss;rex fetches tooth;rex hands tooth pim;", 2, 13);
        goodLog("pim fetches tooth;rex fetches burn;rex hands burn pim;", 2, 14);
        goodLog("pim fetches tooth;pim hands tooth rex;rex hands tooth pim;", NONE, 0);
    }

    static void promise37_19ToHimself() {
        goodLog("pim fetches tooth;pim hands tooth pim;", 1, 19);
        goodLog("pim hands leg pim;", 0, 19);
    }

    static void promise37_20AsForDropping() {
        goodLog("pim drops tooth;", 0, 21);
        goodLog("pim fetches tooth;rex drops tooth;", 1, 21);
        goodLog("pim fetches tooth;pim drops tooth;pim drops tooth;", 2, 21);
    }

    static void promise37_30AsForBringingHome() {
        goodLog("tooth home;", 0, 31);
        goodLog("hour 5;tooth home;", 1, 31);
        goodLog("pim fetches tooth;tooth home;tooth home;", 2, 31);
    }

    static void promise37_41FewerHoursAreLeft() {
        String to600 = times(10, "hour 60;");
        goodLog(to600, NONE, 0);
        goodLog(to600 + "hour 1;", 10, 41);
        PainPorters x = of(SMALL);
        passTo(x, 590);
        due("11 of 10", log(x, "hour 11;", 1), 0);
        dueLogged(x, 41, 0, 590, 3);
        due("none went by", x.now(0), 590);
        due("10 of 10", log(x, "hour 10;", 1), NONE);
        dueLogged(x, 0, 1, 600, 3);
        due("now(0)", x.now(0), 600);
        due("1 of 0", log(x, "hour 1;", 1), 0);
        dueLogged(x, 41, 0, 600, 3);
    }

    static void promise37_theHourAndWhoFeelsNothingThen() {
        PainPorters x = of("sort s;person m 9;person n 9;person o 9;porter r 9 1;pain a m s 1 9;pain b n s 1 3;");
        due("judged", log(x, "r fetches a;hour 2;r drops b;hour 9;", 0), 2);
        dueLogged(x, 21, 2, 2, 5);
        due("judged", log(x, "r fetches a;hour 3;", 0), NONE);
        dueLogged(x, 0, 2, 3, 7);
        due("nobody is free now but the third", x.now(1), 4);
    }

    // ---- Promise 38: sentence

    static void promise38_anEmptyOneIsNone() {
        badSentence("", 0, 1);
        badSentence(" \n", 2, 1);
        badSentence(times(200, " "), 200, 1);
    }

    static void promise38_theTapeIsEmptyThen() {
        PainPorters x = of(SMALL);
        sentence(x, "over");
        due("behind a SENTENCE", x.count(5), 0);
        sentence(x, "over and");
        due("behind a FAULT", x.count(5), 0);
    }

    static void promise38_aFaultLeavesTheOneThatWas() {
        PainPorters x = of(SMALL);
        sentence(x, "is ache");
        due("sentence()", sentence(x, "is grief and is zed"), -1 - 16);
        due("fault()", x.fault(), 3);
        due("said", said(x), "03");
        PainPorters y = of(SMALL);
        sentence(y, "over and");
        due("there was none", y.said(NONE), NONE);
    }

    static void promise38_200Bytes() {
        goodSentence(wide(200, "over"), 1);
        goodSentence("over" + times(196, "\n"), 1);
        badSentence(wide(201, "over"), 200, 1);
        badSentence("over" + times(197, " "), 200, 1);
        badSentence(times(940, " "), 200, 1);
    }

    static void promise38_tokensThatBeginAheadOf200AreReadWhole() {
        badSentence(times(199, " ") + "over", 200, 1);
        badSentence(times(199, " ") + "overs", 199, 1);
        badSentence(times(196, " ") + "is zed", 199, 3);
        badSentence(times(196, " ") + "is ache", 200, 1);
        badSentence(times(197, " ") + "is zed", 200, 1);
        badSentence(times(192, " ") + "left < 1000", 199, 1);
        badSentence(times(192, " ") + "left < 999", 200, 1);
    }

    static void promise38_twentyOnes() {
        goodSentence(times(19, "over or ") + "over", 20);
        badSentence(times(20, "over or ") + "over", 160, 4);
        goodSentence(times(9, "not over or ") + "not over", 20);
        badSentence(times(10, "not over or ") + " over", 121, 4);
        badSentence(times(9, "not over or ") + "not not over", 116, 4);
        goodSentence(times(9, "(over)or ") + "(over)", 20);
        badSentence(times(10, "(over)or ") + "(over)", 90, 4);
        badSentence(times(19, "over or ") + "(over)", 153, 4);
        badSentence(times(20, "over or "), 160, 1);
    }

    static void promise38_eightWithinOneAnother() {
        goodSentence("not not not not not not not over", 8);
        badSentence("not not not not not not not not over", 32, 4);
        goodSentence("(((((((over)))))))", 8);
        badSentence("((((((((over))))))))", 8, 4);
        goodSentence("(not(not(not(over))))", 8);
        goodSentence("not(not(not(not over)))", 8);
        badSentence("not(not(not(not(over))))", 16, 4);
        badSentence("(((((((((", 8, 4);
        badSentence("((((((((", 8, 1);
    }

    static void promise38_withinEndsWithItsBracketAndItsNot() {
        goodSentence("(((((((over))))))) or not not not not not not not over", 16);
        goodSentence("((((((over)or not over)and not over)))) and (((((((over)))))))", 19);
        goodSentence("((((((over)or not not over)))))", 10);
        badSentence("((((((over)or not not not over)))))", 26, 4);
        goodSentence("(not over and not over or not over)", 7);
    }

    static void promise38_eachNotBracketAndOtherOneIsCounted() {
        goodSentence("over", 1);
        goodSentence("not over", 2);
        goodSentence("(over)", 2);
        goodSentence("not (over or lost and carried)", 5);
        goodSentence("of ann and with bob and with pim and is ache and weight<1 and left=2 and number>3", 7);
    }

    static void promise38_tokensThatCantCome() {
        badSentence("and", 0, 1);
        badSentence("or over", 0, 1);
        badSentence("over over", 5, 1);
        badSentence("over not over", 5, 1);
        badSentence("over;", 4, 1);
        badSentence("over or", 7, 1);
        badSentence("over and or over", 9, 1);
        badSentence("not", 3, 1);
        badSentence("not or", 4, 1);
        badSentence("()", 1, 1);
        badSentence(")", 0, 1);
        badSentence("over)", 4, 1);
        badSentence("(over", 5, 1);
        badSentence("(over))", 6, 1);
        badSentence("((over) or", 10, 1);
        badSentence("tooth", 0, 1);
        badSentence("7", 0, 1);
        badSentence("hour = 1", 0, 1);
        badSentence("sort", 0, 1);
        badSentence("over!", 4, 1);
    }

    static void promise38_namesOfTheirSort() {
        badSentence("of", 2, 1);
        badSentence("of pim", 3, 3);
        badSentence("of tooth", 3, 3);
        badSentence("of ache", 3, 3);
        badSentence("of zed", 3, 3);
        badSentence("of over", 3, 1);
        badSentence("of 1", 3, 1);
        badSentence("with tooth", 5, 3);
        badSentence("with ache", 5, 3);
        badSentence("with zed", 5, 3);
        badSentence("is ann", 3, 3);
        badSentence("is pim", 3, 3);
        badSentence("is tooth", 3, 3);
        badSentence("is fixed", 3, 1);
    }

    static void promise38_signAndNumber() {
        for (String what : new String[] {"weight", "left", "number"}) {
            int at = what.length();
            goodSentence(what + "<0", 1);
            goodSentence(what + "=000", 1);
            goodSentence(what + ">999", 1);
            badSentence(what, at, 1);
            badSentence(what + " 1", at + 1, 1);
            badSentence(what + "<", at + 1, 1);
            badSentence(what + "<=1", at + 1, 1);
            badSentence(what + "<>1", at + 1, 1);
            badSentence(what + "!1", at, 1);
            badSentence(what + "=x", at + 1, 1);
            badSentence(what + "=1000", at + 1, 1);
            badSentence(what + "=-1", at + 1, 1);
            badSentence(what + "(1", at, 1);
        }
    }

    static void promise38_oneKnowsNothingOfTheOnesAheadOfIt() {
        for (String first : new String[] {"not", "((((((", "over or", "over and", "not (not over or", "not not over",
            "over and lost or not over", "weight < 3", "of zed"}) {
            PainPorters x = of(SMALL);
            sentence(x, first);
            due("behind " + first, saying(x, "is ache"), "03");
            sentence(x, first);
            sentence(x, first);
            due("behind two of " + first, saying(x, "is ache"), "03");
            sentence(x, first);
            badSentenceOf(x, "over)", 4, 1);
            due("behind " + first, saying(x, "is ache"), "03");
            badSentenceOf(x, "(over", 5, 1);
            due("behind " + first, saying(x, "is ache"), "03");
            due("behind " + first, saying(x, "weight > 3 or is limp"), "023");
            due("behind " + first, sentence(x, "not not not not not not not over"), 8);
            due("behind " + first, sentence(x, times(19, "over or ") + "over"), 20);
            due("behind " + first, saying(x, "weight > 3"), "03");
        }
    }

    static void promise38_inAnEmptyTown() {
        PainPorters x = new PainPorters();
        due("sentence()", sentence(x, "over or number < 9"), 2);
        due("said(NONE)", x.said(NONE), 0);
        due("said(0)", x.said(0), NONE);
        due("a NAME", sentence(x, "of ann"), -1 - 3);
    }

    // ---- Promise 39: said

    static void promise39_thereIsNoSentence() {
        PainPorters x = of(SMALL);
        due("said(NONE)", x.said(NONE), NONE);
        due("said(0)", x.said(0), NONE);
        sentence(x, "over");
        town(x, SMALL);
        due("a new TOWN has none", x.said(NONE), NONE);
    }

    static void promise39_noneSuch() {
        PainPorters x = of(SMALL);
        sentence(x, "is ache");
        due("how many", x.said(NONE), 2);
        due("the first", x.said(0), 0);
        due("the second", x.said(1), 3);
        due("said(2)", x.said(2), NONE);
        for (int k : NO_SUCH) {
            if (k != NONE) {
                due("said(" + k + ")", x.said(k), NONE);
            }
        }
    }

    static void promise39_ofNoneAndOfAll() {
        PainPorters x = of(FULL);
        due("none", saying(x, "weight > 9"), "");
        due("how many", x.said(NONE), 0);
        due("all", saying(x, "weight < 10"), "01234567");
        due("how many", x.said(NONE), 8);
        due("the eighth", x.said(7), 7);
        due("the ninth", x.said(8), NONE);
        due("not none", saying(x, "not weight > 9"), "01234567");
    }

    static void promise39_notAheadOfAndAheadOfOr() {
        PainPorters x = of(SMALL);
        due("or, and", saying(x, "is ache or is grief and of bob"), "03");
        due("and, or", saying(x, "of bob and is grief or is ache"), "03");
        due("brackets", saying(x, "of bob and (is grief or is ache)"), "3");
        due("not, and", saying(x, "not of bob and is ache"), "0");
        due("not, or", saying(x, "not of bob or is limp"), "012");
        due("not of brackets", saying(x, "not (of bob and is ache)"), "012");
        due("not not", saying(x, "not not of bob"), "23");
        due("not of brackets, and", saying(x, "not(is ache)and not(is grief)"), "2");
        String many = "number=0 or number=1 and of bob or number=2 and of bob and is limp or number=3 and of ann";
        due("many", saying(x, many), "02");
    }

    static void promise39_carriedLostOver() {
        PainPorters x = of(SMALL);
        x.hours(4);
        x.fetch(0, 0);
        due("carried", saying(x, "carried"), "0");
        due("lost", saying(x, "lost"), "");
        due("over", saying(x, "over"), "3");
        x.drop(0, 0);
        due("carried", saying(x, "carried"), "");
        due("lost", saying(x, "lost"), "0");
        due("with nobody", saying(x, "not with ann and not with bob and not with pim and not with rex"), "03");
    }

    static void promise39_ofWhoseItWasTold() {
        PainPorters x = of("sort s;person m 9;person n 9;porter r 9 0;pain a n s 1 9;");
        drop(x, 0, 0);
        x.hours(1);
        due("with the first", saying(x, "with m"), "0");
        due("not with whose it is", saying(x, "with n"), "");
        due("of whose it is", saying(x, "of n"), "0");
        due("not of the first", saying(x, "of m"), "");
        x.hours(8);
        due("over, of whose it was", saying(x, "over and of n"), "0");
        due("over, with nobody", saying(x, "with m"), "");
    }

    static void promise39_withAPorterOrAPersonOfTheSameNumber() {
        PainPorters x = of("sort s;person m 9;porter r 9 0;pain a m s 1 9;pain b m s 1 9;");
        x.fetch(0, 1);
        due("with the PERSON", saying(x, "with m"), "0");
        due("with the PORTER", saying(x, "with r"), "1");
        PainPorters y = of("sort s;person m 9;person n 9;porter r 9 0;porter q 9 0;pain a n s 1 9;pain b m s 1 9;");
        y.fetch(1, 1);
        due("with the second PERSON", saying(y, "with n"), "0");
        due("with the second PORTER", saying(y, "with q"), "1");
    }

    static void promise39_lessLikeMore() {
        PainPorters x = of(SMALL);
        due("weight<4", saying(x, "weight<4"), "12");
        due("weight=4", saying(x, "weight=4"), "0");
        due("weight>4", saying(x, "weight>4"), "3");
        due("left<5", saying(x, "left<5"), "3");
        due("left=5", saying(x, "left=5"), "0");
        due("left>5", saying(x, "left>5"), "12");
        due("number<1", saying(x, "number<1"), "0");
        due("number=1", saying(x, "number=1"), "1");
        due("number>1", saying(x, "number>1"), "23");
        due("nothing is less than 0", saying(x, "number<0 or left<0 or weight<1"), "");
        due("999", saying(x, "number=999 or left>999"), "");
    }

    static void promise39_itIsSaidOfWhatIsSoNow() {
        PainPorters x = of(SMALL);
        sentence(x, "with ann and left > 3");
        due("at first", said(x), "01");
        x.fetch(0, 0);
        due("one is fetched", said(x), "1");
        x.undo();
        due("undone", said(x), "01");
        x.hours(2);
        due("HOURS left", said(x), "1");
        x.hours(60);
        due("over", said(x), "");
    }

    // ---- Promise 40: image

    static void promise40_noSuchPlace() {
        PainPorters x = of(SMALL);
        for (int k : new int[] {LOW, -1, 2, 3, 32, HIGH}) {
            due("image(" + k + ")", x.image(k), false);
        }
        due("nothing is kept", x.restore(0) || x.restore(1), false);
    }

    static void promise40_twoPlaces() {
        PainPorters x = of(EASY);
        x.hours(1);
        due("image(0)", x.image(0), true);
        x.hours(1);
        due("image(1)", x.image(1), true);
        x.hours(1);
        due("restore(0)", x.restore(0), true);
        due("now(0)", x.now(0), 1);
        due("restore(1)", x.restore(1), true);
        due("now(0)", x.now(0), 2);
    }

    static void promise40_aLaterImageTakesThePlace() {
        PainPorters x = of(EASY);
        x.image(1);
        x.hours(5);
        due("image(1)", x.image(1), true);
        x.hours(5);
        x.restore(1);
        due("now(0)", x.now(0), 5);
    }

    static void promise40_anEmptyTownIsKept() {
        PainPorters x = new PainPorters();
        due("image(0)", x.image(0), true);
        town(x, SMALL);
        x.hours(3);
        due("restore(0)", x.restore(0), true);
        due("all", look(x), look(new PainPorters()));
    }

    static void promise40_itChangesNothing() {
        PainPorters x = of(SMALL);
        x.fetch(0, 0);
        x.feed(1, 2, 3, 4, 5);
        String before = look(x);
        x.image(0);
        due("all", look(x), before);
        due("an act can be undone still", x.undo(), 0);
    }

    static void promise40_itStaysAsItWasKept() {
        PainPorters x = of(SMALL);
        sentence(x, "is ache");
        x.fetch(0, 0);
        x.hours(1);
        x.image(0);
        String before = look(x);
        x.hand(0, 0, 1);
        drop(x, 0, 1);
        x.hours(7);
        sentence(x, "over and of ann or lost");
        x.restore(0);
        due("all", look(x), before);
        x.hours(9);
        town(x, FULL);
        sentence(x, "is f");
        x.restore(0);
        due("all again", look(x), before);
    }

    // ---- Promise 41: restore

    static void promise41_noSuchPlace() {
        PainPorters x = of(SMALL);
        x.image(0);
        x.image(1);
        x.hours(2);
        for (int k : new int[] {LOW, -1, 2, 3, 32, HIGH}) {
            due("restore(" + k + ")", x.restore(k), false);
        }
        due("nothing changed", x.now(0), 2);
        due("an act can be undone still", x.undo(), 0);
    }

    static void promise41_nothingIsKeptThere() {
        PainPorters x = of(SMALL);
        due("restore(0)", x.restore(0), false);
        due("restore(1)", x.restore(1), false);
        x.image(1);
        x.hours(2);
        due("restore(0)", x.restore(0), false);
        due("nothing changed", x.now(0), 2);
        due("an act can be undone still", x.undo(), 0);
    }

    static void promise41_nothingCanBeUndone() {
        PainPorters x = of(SMALL);
        x.hours(1);
        x.image(0);
        x.hours(1);
        due("restore(0)", x.restore(0), true);
        due("undo()", x.undo(), NONE);
        x.hours(1);
        due("one act", x.undo(), 0);
        due("now(0)", x.now(0), 1);
    }

    static void promise41_theTapeStays() {
        PainPorters x = of(SMALL);
        x.image(0);
        type(x, "hour 3;");
        x.restore(0);
        due("count(5)", x.count(5), 7);
        due("log(1)", x.log(1), NONE);
        due("now(0)", x.now(0), 3);
    }

    static void promise41_whatOtherCallsToldLastStays() {
        PainPorters x = of(SMALL);
        x.image(0);
        x.free(1, 4);
        x.fewest(9);
        x.rest();
        drop(x, 1, 3);
        limps(x, 7, 7);
        log(x, "hour 2;leg home;", 0);
        sentence(x, "of zed");
        x.restore(0);
        due("by(0)", x.by(0), 1);
        due("load(3)", x.load(3), 1);
        due("fee(1)", x.fee(1), 3);
        due("surely(3)", x.surely(3), 1);
        due("ask()", x.ask(), 3);
        dueLogged(x, 31, 1, 2, 0);
        due("fault()", x.fault(), 3);
    }

    static void promise41_namesAndTheSentenceComeBack() {
        PainPorters x = of(SMALL);
        sentence(x, "weight > 3");
        x.image(1);
        town(x, "sort tooth;person pim 3;");
        due("another TOWN", x.said(NONE), NONE);
        x.restore(1);
        due("said", said(x), "03");
        due("NAMES", log(x, "pim fetches tooth;", 1), NONE);
        town(x, "sort tooth;person pim 3;");
        x.image(0);
        x.restore(1);
        x.restore(0);
        due("no SENTENCE", x.said(NONE), NONE);
        due("NAMES", sentence(x, "of pim or is tooth"), 2);
    }

    static void promise41_allOfTheSentenceComesBack() {
        PainPorters x = of(SMALL);
        sentence(x, "weight > 4 or with rex");
        x.image(0);
        for (int i = 0; i < 3; i++) {
            sentence(x, "number < 2 and not with ann and is grief");
        }
        x.restore(0);
        due("said", said(x), "3");
        x.fetch(1, 0);
        due("said", said(x), "03");
    }

    static void promise41_whatTalksComesBack() {
        PainPorters x = of("sort a;sort b;talks a b;person m 9;porter r 9 0;porter q 9 0;bars q b;"
                + "pain c m a 1 9;pain d m b 1 9;");
        x.fetch(0, 0);
        x.image(0);
        for (int i = 0; i < 3; i++) {
            town(x, "sort a;sort b;person m 9;porter r 1 0;pain c m b 9 9;pain d m b 9 9;");
        }
        x.restore(0);
        due("talks", x.fetch(0, 1), 3);
        due("barred", x.fetch(1, 1), 2);
        due("handed", x.hand(0, 0, 1), 0);
        due("it talks to none now", x.fetch(0, 1), 0);
    }

    static void promise41_whatIsLearntComesBack() {
        PainPorters x = of(EASY);
        x.fetch(0, 0);
        x.hours(9);
        x.image(0);
        x.hours(1);
        due("LEARNT", x.porter(0, 5), 1);
        x.restore(0);
        due("not yet", x.porter(0, 5), 0);
        x.hours(1);
        due("LEARNT again", x.porter(0, 5), 1);
    }

    // ---- Promise 42: count

    static void promise42_anotherWhat() {
        PainPorters x = of(SMALL);
        due("count(6)", x.count(6), NONE);
        for (int what : NO_SUCH) {
            due("count(" + what + ")", x.count(what), NONE);
        }
    }

    static void promise42_eachWhat() {
        PainPorters x = of(FULL);
        x.feed(0, 0, 0, 0, 0);
        int[] due = {6, 5, 5, 8, 7, 20};
        for (int what = 0; what < 6; what++) {
            due("count(" + what + ")", x.count(what), due[what]);
        }
    }

    static void promise42_painsThatAreOverAreCounted() {
        PainPorters x = of(SMALL);
        x.hours(60);
        due("count(3)", x.count(3), 4);
    }

    public static void main(String[] args) throws IllegalAccessException {
        runAll(Edge34To42Test.class, 34, 42);
    }
}
