/** The boundaries of promises 18 to 33: what is found out by looking ahead. See EdgeHelp. */
public final class Edge18To33Test extends EdgeHelp {
    // ---- Promise 18: free

    static void promise18_noSuchOnes() {
        PainPorters x = of(SMALL);
        due("free(4, 1)", x.free(4, 1), NONE);
        due("free(5, 1)", x.free(5, 1), NONE);
        for (int set : new int[] {LOW, LOW + 1, -1, -2, 8, 32, 256, 1 << 30, HIGH}) {
            due("free(" + set + ", 1)", x.free(set, 1), NONE);
        }
        due("free(32, 1) of five", of(FULL).free(32, 1), NONE);
        due("free(-1, 1), though all can be free", of(EASY).free(-1, 1), NONE);
        due("all are free", of(EASY).free(3, 1), 0);
    }

    static void promise18_hours1To200() {
        PainPorters x = of("sort s;person m 0;porter r 9 1;pain a m s 1 200;");
        due("1", x.free(1, 1), 1);
        due("199", x.free(1, 199), 199);
        due("200", x.free(1, 200), 200);
        for (int n : new int[] {0, -1, LOW, 201, HIGH}) {
            due("free(1, " + n + ")", x.free(1, n), NONE);
        }
    }

    static void promise18_nobodyAndThoseWithoutPains() {
        PainPorters x = of("sort s;person m 0;person n 0;porter r 9 1;pain a m s 1 200;");
        due("nobody", x.free(0, 5), 0);
        due("one without PAINS", x.free(2, 5), 0);
        PainPorters y = of("person m 0;");
        due("without PORTERS and PAINS", y.free(1, 5), 0);
        PainPorters z = of("sort s;person m 0;pain a m s 1 1;");
        due("a PAIN without PORTERS", z.free(1, 5), NONE);
        z.hours(1);
        due("it is over", z.free(1, 5), 0);
    }

    static void promise18_allFiveFull() {
        PainPorters x = of("sort s;" + PERSONS5 + "porter a 9 20;porter b 9 20;porter c 9 20;porter d 9 20;"
                + "porter e 36 20;"
                + "pain q g s 9 200;pain r h s 9 200;pain l i s 9 200;pain t j s 9 200;pain u k s 9 200;pain v g s 9 200;"
                + "pain w h s 9 200;pain x i s 9 200;");
        due("the dearest of all", x.free(31, 200), 32000);
        for (int p = 0; p < 8; p++) {
            due("by(" + p + ")", x.by(p), p < 4 ? p : 4);
        }
    }

    static void promise18_eachHourThatItLastsButNotMoreThanAsked() {
        PainPorters x = of("sort s;person m 0;porter r 9 3;pain a m s 1 4;pain b m s 1 9;");
        due("3", x.free(1, 3), 18);
        due("4", x.free(1, 4), 24);
        due("5", x.free(1, 5), 27);
        due("9", x.free(1, 9), 39);
        due("10", x.free(1, 10), 39);
        x.hours(3);
        due("what is left of them", x.free(1, 10), 21);
    }

    static void promise18_whatIsWithThemNowWhoseverItIs() {
        PainPorters x = of("sort s;person m 0;person n 0;porter r 9 1;porter q 9 0;pain a m s 1 99;pain b n s 1 50;");
        drop(x, 1, 1);
        due("in the street: with nobody", x.free(2, 1), 0);
        x.hours(1);
        due("with the first now", x.pain(1, 4), 0);
        due("the first", x.free(1, 1), 0);
        due("both", x.by(0) * 10 + x.by(1), 11);
        due("the second", x.free(2, 1), 0);
        due("none by it", x.by(1), NONE);
    }

    static void promise18_besidesWhatTheyCarryNow() {
        PainPorters x = of("sort a;person m 9;person n 9;porter r 9 1;porter q 9 2;"
                + "pain c m a 5 99;pain d n a 4 99;pain e n a 1 99;");
        due("both to the first", x.free(2, 1), 2);
        x.fetch(0, 0);
        due("he has room for one, and what he has is not counted", x.free(2, 1), 3);
        due("d", x.by(1), 0);
        due("e", x.by(2), 1);
        due("what is carried is with none by it", x.by(0), NONE);
    }

    static void promise18_talksToWhatTheyCarryNow() {
        PainPorters x = of("sort a;sort b;talks a b;person m 9;person n 9;porter r 9 1;porter q 9 2;"
                + "pain c m a 1 99;pain d n b 1 99;pain e m a 1 99;");
        due("to the first", x.free(2, 1), 1);
        x.fetch(0, 0);
        due("to the second", x.free(2, 1), 2);
        x.fetch(1, 2);
        due("to nobody", x.free(2, 1), NONE);
    }

    static void promise18_itCantBe() {
        due("fixed", of("sort s fixed;person m 9;porter r 9 1;pain a m s 1 9;").free(1, 1), NONE);
        due("barred", of("sort s;person m 9;porter r 9 1;bars r s;pain a m s 1 9;").free(1, 1), NONE);
        due("too heavy", of("sort s;person m 9;porter r 8 1;pain a m s 9 9;").free(1, 1), NONE);
        due("just not", of("sort s;person m 9;porter r 9 1;pain a m s 9 9;").free(1, 1), 1);
        due("too heavy in all", of("sort s;person m 9;porter r 9 1;pain a m s 5 9;pain b m s 5 9;").free(1, 1), NONE);
        due("talks", of("sort s;sort t;talks s t;person m 9;porter r 9 1;pain a m s 1 9;"
                + "pain b m t 1 9;").free(1, 1), NONE);
    }

    static void promise18_coinIsOfNoMatter() {
        due("free(1, 9)", of("sort s;person m 0;porter r 9 20;pain a m s 1 9;").free(1, 9), 180);
    }

    static void promise18_theLeastNotTheFirst() {
        PainPorters x = of("sort s;person m 9;porter r 9 2;porter q 5 1;pain a m s 5 1;pain b m s 5 9;");
        due("the one that lasts goes to the cheaper", x.free(1, 9), 11);
        due("by(0)", x.by(0), 0);
        due("by(1)", x.by(1), 1);
    }

    static void promise18_ofLikeOnesPainByPainTheLeastPorter() {
        PainPorters x = of("sort s;person m 9;porter r 4 1;porter q 9 1;porter t 9 1;pain a m s 4 9;"
                + "pain b m s 4 9;pain c m s 4 9;");
        due("free(1, 2)", x.free(1, 2), 6);
        due("by(0)", x.by(0), 0);
        due("by(1)", x.by(1), 1);
        due("by(2)", x.by(2), 1);
    }

    static void promise18_ofLikeOnesForNothing() {
        PainPorters x = of("sort s;person m 9;porter r 9 0;porter q 9 0;pain a m s 4 9;pain b m s 4 9;");
        due("free(1, 2)", x.free(1, 2), 0);
        due("by(0)", x.by(0), 0);
        due("by(1)", x.by(1), 0);
    }

    static void promise18_threeOfWhichTwoTalk() {
        PainPorters x = of("sort s;sort t;sort u;talks s t;person m 9;porter r 1 0;porter q 9 1;"
                + "pain a m s 2 9;pain b m t 2 9;pain c m u 2 9;");
        due("free(1, 1)", x.free(1, 1), NONE);
        due("fewest(7)", x.fewest(7), NONE);
        due("fewest(5)", x.fewest(5), 1);
        due("fewest(6)", x.fewest(6), 1);
    }

    static void promise18_oneCallKnowsNothingOfTheOneAheadOfIt() {
        PainPorters x = of("sort s;sort t;talks s t;person m 9;person n 9;porter r 9 3;porter q 9 5;"
                + "pain a m s 4 2;pain b m t 4 3;pain c n s 4 4;pain d n s 4 5;");
        due("two that talk", x.fewest(3), 2);
        due("two of one SORT", x.free(2, 9), 27);
        due("by(2)", x.by(2) + x.by(3), 0);
        due("two that talk", x.free(1, 9), 19);
        due("two of one SORT", x.fewest(12), 1);
        x.fetch(0, 2);
        x.fetch(0, 3);
        due("one beside what they carry", x.free(1, 1), NONE);
        due("what is carried is of no matter", x.fewest(2), 1);
        due("load(1)", x.load(1), 0);
    }

    static void promise18_whatIsLearntCounts() {
        PainPorters x = of("sort s;person m 9;porter r 9 0;pain a m s 5 99;pain b m s 5 99;");
        due("10 of 9", x.free(1, 1), NONE);
        x.fetch(0, 0);
        x.hours(10);
        x.home(0);
        due("8 of 9", x.free(1, 1), 0);
    }

    static void promise18_itChangesNothing() {
        PainPorters x = of(SMALL);
        x.fetch(0, 0);
        String before = look(x);
        due("free(1, 9)", x.free(1, 9), NONE);
        x.home(0);
        due("free(1, 9)", x.free(1, 9), 33);
        x.undo();
        due("all", look(x), before);
    }

    // ---- Promise 19: by

    static void promise19_aheadOfAny() {
        PainPorters x = of(SMALL);
        due("by(0)", x.by(0), NONE);
        x.free(2, 1);
        due("a free() of NONE is none", x.by(0), NONE);
    }

    static void promise19_noSuchOne() {
        PainPorters x = of(SMALL);
        x.free(1, 1);
        due("by(4)", x.by(4), NONE);
        for (int p : NO_SUCH) {
            due("by(" + p + ")", x.by(p), NONE);
        }
        PainPorters full = of(FULL);
        full.free(1, 1);
        due("by(8)", full.by(8), NONE);
    }

    static void promise19_noneByIt() {
        PainPorters x = of(SMALL);
        due("free(1, 4)", x.free(1, 4), 20);
        due("by(0)", x.by(0), 1);
        due("by(1)", x.by(1), 0);
        due("of another", x.by(2), NONE);
        due("of another", x.by(3), NONE);
    }

    static void promise19_theLatestThatWasNotNone() {
        PainPorters x = of(SMALL);
        x.free(1, 4);
        x.free(3, 4);
        x.free(8, 4);
        x.free(1, 0);
        due("NONE leaves it", x.by(0), 1);
        x.hours(1);
        x.fetch(1, 3);
        due("acts leave it", x.by(0), 1);
        due("free(0, 1)", x.free(0, 1), 0);
        due("none by the latest", x.by(0), NONE);
    }

    // ---- Promise 20: fewest

    static void promise20_noSuchOnes() {
        PainPorters x = of(SMALL);
        due("fewest(16)", x.fewest(16), NONE);
        due("fewest(17)", x.fewest(17), NONE);
        for (int set : new int[] {LOW, LOW + 1, -1, -2, 32, 256, 1 << 30, HIGH}) {
            due("fewest(" + set + ")", x.fewest(set), NONE);
        }
        due("fewest(256) of eight", of(FULL).fewest(256), NONE);
        due("fewest(-1), though all can be carried", of(EASY).fewest(-1), NONE);
        due("all are carried", of(EASY).fewest(15), 1);
    }

    static void promise20_noPains() {
        due("fewest(0)", of(SMALL).fewest(0), 0);
        due("without PORTERS", of("").fewest(0), 0);
        due("one without PORTERS", of("sort s;person m 9;pain a m s 1 9;").fewest(1), NONE);
    }

    static void promise20_oneIsOver() {
        PainPorters x = of("sort s;person m 9;porter r 9 0;pain a m s 1 1;pain b m s 1 2;");
        due("both", x.fewest(3), 1);
        x.hours(1);
        due("both, one is over", x.fewest(3), NONE);
        due("that is over", x.fewest(1), NONE);
        due("the other", x.fewest(2), 1);
        due("none of them", x.fewest(0), 0);
    }

    static void promise20_itCantBe() {
        due("fixed", of("sort s fixed;person m 9;porter r 9 1;pain a m s 1 9;").fewest(1), NONE);
        due("barred", of("sort s;person m 9;porter r 9 1;bars r s;pain a m s 1 9;").fewest(1), NONE);
        due("too heavy", of("sort s;person m 9;porter r 8 1;pain a m s 9 9;").fewest(1), NONE);
        due("just not", of("sort s;person m 9;porter r 9 1;pain a m s 9 9;").fewest(1), 1);
        due("too heavy in all", of("sort s;person m 9;porter r 9 1;pain a m s 5 9;pain b m s 5 9;").fewest(3), NONE);
        due("talks", of("sort s;sort t;talks s t;person m 9;porter r 9 1;pain a m s 1 9;"
                + "pain b m t 1 9;").fewest(3), NONE);
    }

    static void promise20_allEightByAllFive() {
        PainPorters x = of("sort s;person m 0;porter a 9 20;porter b 18 20;porter c 18 20;porter d 9 20;porter e 18 20;"
                + "pain q m s 9 200;pain r m s 9 200;pain l m s 9 200;pain t m s 9 200;pain u m s 9 200;pain v m s 9 200;"
                + "pain w m s 9 200;pain x m s 9 200;");
        due("eight, coin of no matter", x.fewest(255), 5);
        int[] due = {0, 1, 1, 2, 2, 3, 4, 4};
        for (int p = 0; p < 8; p++) {
            due("load(" + p + ")", x.load(p), due[p]);
        }
        due("six", x.fewest(252), 3);
        due("two", x.fewest(129), 1);
        due("load(0)", x.load(0), 1);
        due("load(7)", x.load(7), 1);
    }

    static void promise20_oneByTheStrongerIsFewerThanTwo() {
        PainPorters x = of("sort s;person m 9;porter r 4 0;porter q 5 0;porter t 9 0;pain a m s 4 9;pain b m s 5 9;");
        due("fewest(3)", x.fewest(3), 1);
        due("load(0)", x.load(0), 2);
        due("load(1)", x.load(1), 2);
    }

    static void promise20_whatIsCarriedIsOfNoMatter() {
        PainPorters x = of("sort s;sort t;talks s t;person m 9;porter r 9 0;pain a m s 9 9;pain b m t 9 9;");
        x.fetch(0, 0);
        due("beside what he has", x.fewest(2), 1);
        due("what he has", x.fewest(1), 1);
        x.drop(0, 0);
        due("in the street", x.fewest(1), 1);
    }

    static void promise20_whatIsLearntCounts() {
        PainPorters x = of("sort s;person m 9;porter r 9 0;porter q 9 0;pain a m s 5 99;pain b m s 5 99;");
        due("two", x.fewest(3), 2);
        x.fetch(1, 0);
        x.hours(9);
        due("two at 9", x.fewest(3), 2);
        x.hours(1);
        due("one at 10", x.fewest(3), 1);
        due("he who has LEARNT it", x.load(0), 1);
    }

    static void promise20_ofLikeOnesPainByPainTheLeastPorter() {
        PainPorters x = of("sort s;person m 9;porter r 5 0;porter q 9 0;porter t 9 0;pain a m s 4 9;"
                + "pain b m s 5 9;pain c m s 4 9;");
        due("fewest(7)", x.fewest(7), 2);
        due("load(0)", x.load(0), 0);
        due("load(1)", x.load(1), 1);
        due("load(2)", x.load(2), 1);
    }

    static void promise20_itChangesNothing() {
        PainPorters x = of(SMALL);
        x.fetch(0, 0);
        String before = look(x);
        due("fewest(11)", x.fewest(11), 2);
        due("all", look(x), before);
        due("one act", x.undo(), 0);
    }

    // ---- Promise 21: load

    static void promise21_aheadOfAny() {
        PainPorters x = of(SMALL);
        due("load(0)", x.load(0), NONE);
        x.fewest(4);
        due("a fewest() of NONE is none", x.load(2), NONE);
        x.free(1, 1);
        due("free() is another", x.load(0), NONE);
    }

    static void promise21_noSuchOne() {
        PainPorters x = of(SMALL);
        x.fewest(11);
        due("load(4)", x.load(4), NONE);
        for (int p : NO_SUCH) {
            due("load(" + p + ")", x.load(p), NONE);
        }
    }

    static void promise21_noneByIt() {
        PainPorters x = of(SMALL);
        due("fewest(9)", x.fewest(9), 1);
        due("load(0)", x.load(0), 1);
        due("load(1)", x.load(1), NONE);
        due("load(2)", x.load(2), NONE);
        due("load(3)", x.load(3), 1);
    }

    static void promise21_theLatestThatWasNotNone() {
        PainPorters x = of(SMALL);
        x.fewest(9);
        x.fewest(4);
        x.fewest(16);
        x.fewest(-1);
        due("NONE leaves it", x.load(0), 1);
        x.hours(5);
        due("over, by it still", x.load(0), 1);
        x.fewest(1);
        due("one that is over leaves it", x.load(0), 1);
        due("fewest(0)", x.fewest(0), 0);
        due("none by the latest", x.load(0), NONE);
    }

    // ---- Promise 22: limps

    static void promise22_asManyBytesAsPersons() {
        PainPorters x = of(EASY);
        due("as many", limps(x, 3, 12), 1);
        due("one less", limps(x, 3), NONE);
        due("one more", limps(x, 3, 12, 0), NONE);
        due("none", limps(x), NONE);
        due("many more", limps(x, new int[940]), NONE);
    }

    static void promise22_1ByteAtLeast() {
        due("no PERSONS, no bytes", new PainPorters().limps(), NONE);
        due("no PERSONS, one byte", limps(new PainPorters(), 0), NONE);
        due("one PERSON, no bytes", limps(of("person m 9;")), NONE);
        due("one PERSON, one byte", limps(of("person m 9;"), 0), 1);
    }

    static void promise22_theTapeIsEmptyThen() {
        PainPorters x = of(EASY);
        limps(x, 3, 12);
        due("behind a way", x.count(5), 0);
        limps(x, 0, 0);
        due("behind none", x.count(5), 0);
        limps(x, 0, 0, 0);
        due("behind NONE", x.count(5), 0);
    }

    static void promise22_fourInTheStreetFiveAreTooMany() {
        PainPorters x = of("sort s;person m 9;porter r 40 0;pain a m s 1 99;pain b m s 1 99;pain c m s 1 99;"
                + "pain d m s 1 99;"
                + "pain e m s 1 99;pain f m s 1 99;pain g m s 1 99;pain h m s 1 99;");
        drop(x, 0, 7, 5, 3, 1);
        due("four: six ways to have two of them", limps(x, 6), 6);
        drop(x, 0, 0);
        due("five", limps(x, 5), NONE);
        drop(x, 0, 2, 4, 6);
        due("eight", limps(x, 0), NONE);
        x.hours(1);
        due("none", limps(x, 8), 1);
    }

    static void promise22_noneInTheStreet() {
        PainPorters x = of(EASY);
        due("as it is", limps(x, 3, 12), 1);
        due("the first bears more", limps(x, 4, 12), 0);
        due("the second bears less", limps(x, 3, 11), 0);
    }

    static void promise22_mostWaysOfAll() {
        // Four like PAINS, five PERSONS: each of four has one: 24 ways.
        PainPorters x = of("sort s;person m 9;person n 9;person o 9;person p 9;person q 9;porter r 40 0;"
                + "pain a m s 3 99;pain b m s 3 99;pain c m s 3 99;pain d m s 3 99;");
        drop(x, 0, 0, 1, 2, 3);
        due("one each", limps(x, 3, 3, 0, 3, 3), 24);
        due("two each", limps(x, 6, 0, 0, 0, 6), 6);
        due("one, and nobody", limps(x, 0, 3, 0, 0, 3), 12);
        due("nobody has any", limps(x, 0, 0, 0, 0, 0), 1);
        due("all with one", limps(x, 12, 0, 0, 0, 0), 1);
    }

    static void promise22_besidesWhatIsWithThemNow() {
        PainPorters x = of(EASY);
        drop(x, 0, 1);
        due("the first bears 1 now: 3 with it", limps(x, 3, 12), 1);
        due("2 is not what he bears", limps(x, 2, 12), 0);
        due("the second bears 12 now: 14 with it", limps(x, 1, 14), 1);
        due("nobody", limps(x, 1, 12), 1);
        due("both", limps(x, 3, 14), 0);
        due("less than he bears now", limps(x, 0, 14), 0);
    }

    static void promise22_bytesUpTo255() {
        PainPorters x = of("sort s;person m 9;porter r 40 0;pain a m s 9 99;");
        drop(x, 0, 0);
        due("255", limps(x, 255), 0);
        due("128", limps(x, 128), 0);
        due("9", limps(x, 9), 1);
        due("256 less 9", limps(x, 247), 0);
    }

    static void promise22_itChangesNothing() {
        PainPorters x = of(EASY);
        drop(x, 0, 1, 2);
        String before = look(x);
        due("limps()", limps(x, 3, 8), 1);
        due("all", look(x), before);
    }

    // ---- Promise 23: surely

    static void promise23_aheadOfAny() {
        PainPorters x = of(EASY);
        drop(x, 0, 0);
        due("surely(0)", x.surely(0), NONE);
        limps(x, 0, 0);
        due("0 ways are none", x.surely(0), NONE);
        limps(x, 0);
        due("NONE is none", x.surely(0), NONE);
    }

    static void promise23_nobodyIs5() {
        PainPorters x = of(EASY);
        drop(x, 0, 0, 1);
        due("limps()", limps(x, 2, 12), 1);
        due("nobody", x.surely(0), 5);
        due("the first", x.surely(1), 0);
        due("limps()", limps(x, 0, 13), 1);
        due("the second", x.surely(0), 1);
        due("nobody", x.surely(1), 5);
        PainPorters y = of(PERSONS5 + "sort s;porter r 9 0;pain a g s 1 9;");
        drop(y, 0, 0);
        limps(y, 0, 0, 0, 0, 1);
        due("the fifth PERSON", y.surely(0), 4);
        limps(y, 0, 0, 0, 0, 0);
        due("nobody", y.surely(0), 5);
    }

    static void promise23_notOneAlone() {
        PainPorters x = of("sort s;person m 9;person n 9;porter r 40 0;pain a m s 3 99;pain b m s 3 99;pain c n s 4 99;");
        drop(x, 0, 0, 1, 2);
        due("a or b with the first", limps(x, 3, 4), 2);
        due("a", x.surely(0), NONE);
        due("b", x.surely(1), NONE);
        due("c", x.surely(2), 1);
        due("a and b, one each", limps(x, 3, 3), 2);
        due("a", x.surely(0), NONE);
        due("c with nobody", x.surely(2), 5);
    }

    static void promise23_itDidNotLieInTheStreet() {
        PainPorters x = of(EASY);
        drop(x, 0, 0);
        x.fetch(0, 1);
        limps(x, 1, 12);
        due("in the street", x.surely(0), 0);
        due("with a PORTER", x.surely(1), NONE);
        due("with a PERSON", x.surely(2), NONE);
        x.drop(0, 1);
        due("it lies there now, but did not", x.surely(1), NONE);
        x.home(0);
        due("it is home now, but lay there", x.surely(0), 0);
    }

    static void promise23_noSuchOne() {
        PainPorters x = of(EASY);
        drop(x, 0, 0);
        due("limps()", limps(x, 3, 12), 1);
        due("surely(4)", x.surely(4), NONE);
        for (int p : NO_SUCH) {
            due("surely(" + p + ")", x.surely(p), NONE);
        }
    }

    static void promise23_theLatestLimpsAbove0() {
        PainPorters x = of(EASY);
        drop(x, 0, 0);
        due("limps()", limps(x, 3, 12), 1);
        due("the first", x.surely(0), 0);
        due("0 ways", limps(x, 9, 9), 0);
        due("NONE", limps(x, 9), NONE);
        due("they leave it", x.surely(0), 0);
        x.home(0);
        due("none lies there", limps(x, 3, 12), 1);
        due("none lay there", x.surely(0), NONE);
    }

    // ---- Promise 24: ask

    static void promise24_aheadOfAny() {
        PainPorters x = of(EASY);
        drop(x, 0, 0);
        due("ask()", x.ask(), NONE);
        limps(x, 0, 0);
        due("0 ways are none", x.ask(), NONE);
    }

    static void promise24_noneLayInTheStreet() {
        PainPorters x = of(EASY);
        due("limps()", limps(x, 3, 12), 1);
        due("ask()", x.ask(), NONE);
        drop(x, 0, 1);
        limps(x, 3, 12);
        due("one lies there", x.ask(), 1);
        x.home(1);
        limps(x, 3, 12);
        due("none lies there", x.ask(), NONE);
    }

    static void promise24_theMostUnlikeThings() {
        // 1 3: a with the second, and one of b and c with each.
        PainPorters x = of("sort s;person m 9;person n 9;porter r 40 0;pain a m s 2 99;pain b m s 1 99;pain c n s 1 99;");
        drop(x, 0, 0, 1, 2);
        due("limps()", limps(x, 1, 3), 2);
        due("a is sure", x.surely(0), 1);
        due("b", x.ask(), 1);
        // 2 0: a with the first, or b and c.
        due("limps()", limps(x, 2, 0), 2);
        due("the first of like ones", x.ask(), 0);
        // 1 0: b or c with the first; a with nobody.
        due("limps()", limps(x, 1, 0), 2);
        due("b", x.ask(), 1);
        // 2 1: a with the first, and b or c with the second.
        due("limps()", limps(x, 2, 1), 2);
        due("b", x.ask(), 1);
    }

    static void promise24_threeThingsAreMoreThanTwo() {
        // 3 3 with 3, 2, 1, 1: the 3 with one, the 2 and a 1 with the other, a 1 with nobody.
        PainPorters x = of("sort s;person m 9;person n 9;porter r 40 0;"
                + "pain a m s 3 99;pain b m s 2 99;pain c n s 1 99;pain d n s 1 99;");
        drop(x, 0, 0, 1, 2, 3);
        due("limps()", limps(x, 3, 3), 4);
        due("c: with either or nobody", x.ask(), 2);
    }

    static void promise24_oneThingIsStillAskedOf() {
        PainPorters x = of(EASY);
        drop(x, 0, 2, 3);
        due("limps()", limps(x, 7, 8), 1);
        due("the first", x.ask(), 2);
    }

    static void promise24_theLatestLimpsAbove0() {
        PainPorters x = of(EASY);
        drop(x, 0, 3);
        limps(x, 3, 4);
        limps(x, 0, 0);
        limps(x, 0);
        x.home(3);
        drop(x, 0, 1);
        due("ask()", x.ask(), 3);
    }

    // ---- Promise 25: share

    static void promise25_noSuchCart() {
        PainPorters x = of("porter r 1 1;");
        due("0", x.share(0, 0), 0);
        due("999", x.share(999, 0), 999);
        PainPorters y = of("porter r 1 1;porter q 2 1;porter s 4 1;");
        for (int w : new int[] {-1, -2, -7, LOW, 1000, HIGH}) {
            due("share(" + w + ", 0)", x.share(w, 0), NONE);
            for (int r = 0; r < 3; r++) {
                due("share(" + w + ", " + r + ") of three", y.share(w, r), NONE);
            }
        }
    }

    static void promise25_noSuchPorter() {
        PainPorters x = of("porter r 1 1;porter q 1 1;");
        due("share(1, 2)", x.share(1, 2), NONE);
        for (int r : NO_SUCH) {
            due("share(1, " + r + ")", x.share(1, r), NONE);
        }
        due("no PORTERS", of("person m 1;").share(5, 0), NONE);
    }

    private static void dueShares(PainPorters x, int w, int... parts) {
        for (int r = 0; r < parts.length; r++) {
            due("share(" + w + ", " + r + ")", x.share(w, r), parts[r]);
        }
    }

    static void promise25_nothingIsLeft() {
        PainPorters x = of("porter r 40 1;porter q 39 1;porter s 1 1;");
        dueShares(x, 80, 40, 39, 1);
        dueShares(x, 0, 0, 0, 0);
        dueShares(x, 160, 80, 78, 2);
    }

    static void promise25_cutAndWhatIsLeftToTheGreatestRest() {
        // By 5, 1, 4 of 10: 7 is 3.5, 0.7, 2.8; 3 is 1.5, 0.3, 1.2; 999 is 499.5, 99.9, 399.6.
        PainPorters x = of("porter r 5 1;porter q 1 1;porter s 4 1;");
        dueShares(x, 7, 3, 1, 3);
        dueShares(x, 3, 2, 0, 1);
        dueShares(x, 999, 499, 100, 400);
        dueShares(x, 1, 1, 0, 0);
    }

    static void promise25_ofLikeOnesTheFirstEachOnce() {
        PainPorters x = of("porter r 1 1;porter q 1 1;porter s 1 1;porter t 1 1;porter u 1 1;");
        dueShares(x, 1, 1, 0, 0, 0, 0);
        dueShares(x, 4, 1, 1, 1, 1, 0);
        dueShares(x, 5, 1, 1, 1, 1, 1);
        dueShares(x, 6, 2, 1, 1, 1, 1);
        dueShares(x, 999, 200, 200, 200, 200, 199);
        PainPorters y = of("porter r 3 1;porter q 1 1;porter s 3 1;");
        // 5 is 2 and 1/7, 5/7, 2 and 1/7: one is left.
        dueShares(y, 5, 2, 1, 2);
        // 1 is 3/7, 1/7, 3/7.
        dueShares(y, 1, 1, 0, 0);
    }

    static void promise25_ofNoRestIsGivenNone() {
        // 10 by 20, 5, 5, 5, 5 is 5, 1.25 each: one is left, and it is not the first's.
        PainPorters x = of("porter r 20 1;porter q 5 1;porter s 5 1;porter t 5 1;porter u 5 1;");
        dueShares(x, 10, 5, 2, 1, 1, 1);
    }

    static void promise25_theStrengthOfAllFull() {
        PainPorters x = of("porter r 40 1;porter q 40 1;porter s 40 1;porter t 40 1;porter u 40 1;");
        dueShares(x, 999, 200, 200, 200, 200, 199);
    }

    // ---- Promise 26: rest

    static void promise26_noPorters() {
        due("an empty TOWN", new PainPorters().rest(), 1);
        due("PAINS alone", of("sort s;person m 9;pain a m s 1 9;").rest(), 1);
    }

    static void promise26_atRestAtOnce() {
        due("the ROUND by which it is seen", of("sort s;person m 9;porter r 9 5;pain a m s 8 9;").rest(), 1);
        due("0 already", of("porter r 9 0;").rest(), 1);
        due("20 already", of("sort s;person m 9;porter r 9 20;pain a m s 9 9;").rest(), 1);
    }

    static void promise26_0AtLeast() {
        PainPorters x = of("porter r 9 5;porter q 9 20;");
        due("20 ROUNDS, and one by which it is seen", x.rest(), 21);
        due("fee(0)", x.fee(0), 0);
        due("fee(1)", x.fee(1), 0);
    }

    static void promise26_20AtMost() {
        PainPorters x = of("sort s;sort t;person m 9;porter r 9 0;porter q 4 17;bars q s;bars r t;"
                + "pain a m s 9 9;pain b m t 4 9;");
        due("20 ROUNDS, and one by which it is seen", x.rest(), 21);
        due("fee(0)", x.fee(0), 20);
        due("fee(1)", x.fee(1), 20);
    }

    static void promise26_40RoundsAtMost() {
        // One PAIN for two who are full with it: the cheaper asks more, the other less, without an end.
        PainPorters x = of("sort s;person m 9;porter r 3 1;porter q 3 2;pain a m s 3 9;");
        due("rest()", x.rest(), 40);
        // 1 2, 2 1, 1 2 ...: behind 40 ROUNDS as at first.
        due("fee(0)", x.fee(0), 1);
        due("fee(1)", x.fee(1), 2);
    }

    static void promise26_asMuchAsHisStrengthIsMoreNotLess() {
        PainPorters x = of("sort s;person m 9;porter r 9 5;pain a m s 4 9;pain b m s 5 9;");
        due("9 of 9: to 20", x.rest(), 16);
        due("8 of 9", of("sort s;person m 9;porter r 9 5;pain a m s 4 9;pain b m s 4 9;").rest(), 1);
    }

    static void promise26_ofLikeFeesTheFirst() {
        PainPorters x = of("sort s;person m 9;porter r 9 3;porter q 9 3;pain a m s 5 9;");
        // 3 3: r has it, q asks 2; q has it, r asks 2; 2 2: r has it ... 0 0: r has it, and q can ask no less.
        due("the first has it at like FEES", x.rest(), 7);
        due("fee(0)", x.fee(0), 0);
        due("fee(1)", x.fee(1), 0);
        PainPorters y = of("sort s;person m 9;porter r 9 0;porter q 9 0;pain a m s 5 9;");
        due("at 0 each", y.rest(), 1);
        PainPorters z = of("sort s;person m 9;porter r 9 0;porter q 5 0;pain a m s 5 9;");
        due("the second would be full", z.rest(), 1);
        due("fee(1)", z.fee(1), 0);
    }

    static void promise26_whatIsOverOrFixedGoesToNobody() {
        PainPorters x = of("sort s;sort f fixed;person m 9;porter r 9 2;pain a m s 5 1;pain b m f 5 9;");
        due("one is carried", x.rest(), 1);
        x.hours(1);
        due("it is over: to 0", x.rest(), 3);
        due("fee(0)", x.fee(0), 0);
    }

    static void promise26_asIfNothingWereCarriedAndNothingLearnt() {
        PainPorters x = of("sort s;person m 99;porter r 9 2;porter q 9 1;pain a m s 9 99;pain b m s 9 99;");
        due("both full: to 20", x.rest(), 20);
        x.fetch(0, 0);
        x.hours(10);
        due("LEARNT", x.porter(0, 5), 1);
        due("the same", x.rest(), 20);
        due("fee(0)", x.fee(0), 20);
        due("fee(1)", x.fee(1), 20);
        x.drop(0, 0);
        due("the same with one in the street", x.rest(), 20);
    }

    static void promise26_talksAndBarsAndStrengthCount() {
        // q is the cheapest, but a is barred to him; b talks to a, so it is q's; c is too heavy for both then.
        PainPorters x = of("sort s;sort t;talks s t;person m 9;porter r 9 2;porter q 5 1;bars q s;"
                + "pain a m s 8 9;pain b m t 4 9;pain c m t 2 9;");
        due("rest()", x.rest(), 1);
        PainPorters y = of("sort s;sort t;talks s t;person m 9;porter r 9 2;porter q 6 1;bars q s;"
                + "pain a m s 8 9;pain b m t 4 9;pain c m t 2 9;");
        due("c fits: q is full, up to 20", y.rest(), 20);
        due("fee(0)", y.fee(0), 2);
        due("fee(1)", y.fee(1), 20);
    }

    static void promise26_talksCount() {
        // b would fit beside a but for what they say: q has it, and is full.
        PainPorters x = of("sort s;sort t;talks s t;person m 9;porter r 9 1;porter q 1 2;pain a m s 1 9;pain b m t 1 9;");
        due("to 20", x.rest(), 19);
        due("fee(0)", x.fee(0), 1);
        due("fee(1)", x.fee(1), 20);
    }

    static void promise26_itChangesNothing() {
        PainPorters x = of(EASY);
        String before = look(x);
        x.rest();
        due("all", look(x), before);
        PainPorters y = of("porter r 9 5;");
        y.rest();
        due("the FEE that he takes", y.porter(0, 1), 5);
        due("the same again", y.rest(), 6);
    }

    // ---- Promise 27: fee

    static void promise27_aheadOfAny() {
        due("fee(0)", of(SMALL).fee(0), NONE);
    }

    static void promise27_noSuchOne() {
        PainPorters x = of(SMALL);
        x.rest();
        due("fee(1)", x.fee(1), 3);
        due("fee(2)", x.fee(2), NONE);
        for (int r : NO_SUCH) {
            due("fee(" + r + ")", x.fee(r), NONE);
        }
        PainPorters full = of(FULL);
        full.rest();
        due("fee(5) of five", full.fee(5), NONE);
    }

    static void promise27_aPorterWhomTheLatestRestDidNotHave() {
        PainPorters x = of(FULL);
        town(x, "porter r 9 0;");
        x.rest();
        town(x, "porter r 9 7;porter q 9 8;");
        due("fee(0)", x.fee(0), 0);
        due("fee(1)", x.fee(1), NONE);
    }

    static void promise27_theLatestRest() {
        PainPorters x = of("sort s;person m 9;porter r 9 2;pain a m s 5 1;");
        x.rest();
        due("fee(0)", x.fee(0), 2);
        x.hours(1);
        due("an HOUR leaves it", x.fee(0), 2);
        x.rest();
        due("fee(0)", x.fee(0), 0);
    }

    // ---- Promise 28: unharmed

    static void promise28_noSuchOnes() {
        PainPorters x = of(SMALL);
        for (int n : new int[] {LOW, -1, 7, 8, HIGH}) {
            throwsNoSuchElement("unharmed(" + n + ", 0)", () -> x.unharmed(n, 0));
        }
        for (int what : new int[] {LOW, -1, 2, 3, HIGH}) {
            throwsNoSuchElement("unharmed(1, " + what + ")", () -> x.unharmed(1, what));
        }
    }

    static void promise28_aThrowChangesNothing() {
        PainPorters x = of(SMALL);
        x.fetch(0, 0);
        String before = look(x);
        throwsNoSuchElement("unharmed(7, 2)", () -> x.unharmed(7, 2));
        due("all", look(x), before);
    }

    static void promise28_0HoursAreSure() {
        for (int harm = 0; harm <= 12; harm++) {
            PainPorters x = of("harm " + harm + ";");
            due("above", x.unharmed(0, 0), 1);
            due("below", x.unharmed(0, 1), 1);
        }
    }

    static void promise28_never() {
        PainPorters x = of("harm 0;");
        due("above", x.unharmed(6, 0), 1);
        due("below", x.unharmed(6, 1), 1);
    }

    static void promise28_always() {
        PainPorters x = of("harm 12;");
        for (int n = 1; n <= 6; n++) {
            due("above", x.unharmed(n, 0), 0);
            due("below", x.unharmed(n, 1), 1);
        }
    }

    static void promise28_inLeastTerms() {
        int[] above = {1, 11, 5, 3, 2, 7, 1, 5, 1, 1, 1, 1, 0};
        int[] below = {1, 12, 6, 4, 3, 12, 2, 12, 3, 4, 6, 12, 1};
        for (int harm = 0; harm <= 12; harm++) {
            PainPorters x = of("harm " + harm + ";");
            due("above, harm " + harm, x.unharmed(1, 0), above[harm]);
            due("below, harm " + harm, x.unharmed(1, 1), below[harm]);
            due("above, 2 HOURS, harm " + harm, x.unharmed(2, 0), above[harm] * above[harm]);
            due("below, 2 HOURS, harm " + harm, x.unharmed(2, 1), below[harm] * below[harm]);
        }
    }

    static void promise28_sixHours() {
        PainPorters x = of("sort s;");
        due("above", x.unharmed(6, 0), 1771561);
        due("below", x.unharmed(6, 1), 2985984);
    }

    // ---- Promise 29: ease

    static void promise29_noSuchOne() {
        PainPorters x = of(SMALL);
        due("ease(2)", x.ease(2), NONE);
        for (int m : NO_SUCH) {
            due("ease(" + m + ")", x.ease(m), NONE);
        }
    }

    static void promise29_atOnce() {
        PainPorters x = of("sort s;person m 9;person n 9;porter r 9 1;pain a m s 1 9;");
        due("without PAINS", x.ease(1), 0);
        x.fetch(0, 0);
        due("it is carried", x.ease(0), 0);
        x.hours(2);
        due("now is HOUR 2", x.ease(1), 2);
    }

    static void promise29_theFirstHourAtWhoseBeginning() {
        PainPorters x = of("sort s;person m 9;person n 9;pain a m s 1 5;pain b n s 1 200;pain c m s 1 2;");
        due("behind 5 HOURS", x.ease(0), 5);
        due("behind 200 HOURS", x.ease(1), 200);
        x.hours(3);
        due("the same HOUR", x.ease(0), 5);
    }

    static void promise29_whatFallsOnHimIsFelt() {
        PainPorters x = of("sort s;person m 9;person n 9;porter r 9 0;pain a n s 1 9;");
        drop(x, 0, 0);
        due("now nothing is with him", x.ease(0), 0);
        due("now nothing is with her", x.ease(1), 0);
        x.hours(1);
        due("it fell on him", x.ease(0), 9);
        due("she is free", x.ease(1), 1);
    }

    static void promise29_byHour599() {
        PainPorters x = of(SMALL);
        passTo(x, 599);
        due("at 599", x.ease(0), 599);
        x.hours(1);
        due("at 600", x.ease(0), NONE);
    }

    static void promise29_itChangesNothing() {
        PainPorters x = of(SMALL);
        x.fetch(0, 0);
        String before = look(x);
        due("ease(0)", x.ease(0), 9);
        due("all", look(x), before);
        due("one act", x.undo(), 0);
    }

    // ---- Promise 30: later

    static void promise30_noSuchOne() {
        PainPorters x = of(SMALL);
        due("later(2, 0)", x.later(2, 0), NONE);
        for (int m : NO_SUCH) {
            due("later(" + m + ", 0)", x.later(m, 0), NONE);
        }
    }

    static void promise30_itIsPast() {
        PainPorters x = of(SMALL);
        due("later(0, -1)", x.later(0, -1), NONE);
        due("later(0, LOW)", x.later(0, LOW), NONE);
        x.hours(3);
        due("HOUR 2 in HOUR 3", x.later(0, 2), NONE);
        due("HOUR 0 in HOUR 3", x.later(0, 0), NONE);
        due("HOUR 3 in HOUR 3", x.later(0, 3), 7);
    }

    static void promise30_above600() {
        PainPorters x = of(SMALL);
        due("599", x.later(0, 599), 0);
        due("600", x.later(0, 600), 0);
        due("601", x.later(0, 601), NONE);
        due("HIGH", x.later(0, HIGH), NONE);
        passTo(x, 600);
        due("600 at 600", x.later(0, 600), 0);
        due("599 at 600", x.later(0, 599), NONE);
        due("601 at 600", x.later(0, 601), NONE);
    }

    static void promise30_atTheBeginningOfAnHour() {
        PainPorters x = of("sort s;person m 3;person n 9;porter r 9 1;pain a m s 3 9;pain b m s 4 5;");
        x.fetch(0, 0);
        int[] due = {4, 4, 4, 4, 7, 3, 3, 3, 3, 0};
        for (int h = 0; h < due.length; h++) {
            due("HOUR " + h, x.later(0, h), due[h]);
        }
        drop(x, 0, 1);
        due("in the street now", x.later(1, 0), 0);
        due("fell on the first in HOUR 0", x.later(0, 1), 4);
        due("all stays", x.now(0), 0);
    }

    // ---- Promise 31: lasts

    static void promise31_noSuchOne() {
        PainPorters x = of(SMALL);
        due("lasts(4)", x.lasts(4), NONE);
        for (int p : NO_SUCH) {
            due("lasts(" + p + ")", x.lasts(p), NONE);
        }
    }

    static void promise31_noPorterHasIt() {
        PainPorters x = of("sort s;person m 9;porter r 9 0;pain a m s 1 9;pain b m s 1 1;");
        due("with a PERSON", x.lasts(0), NONE);
        drop(x, 0, 0);
        due("in the street", x.lasts(0), NONE);
        x.hours(1);
        due("over", x.lasts(1), NONE);
    }

    static void promise31_tillItIsOver() {
        PainPorters x = of("sort s;person m 9;porter r 9 0;pain a m s 1 200;pain b m s 1 1;");
        x.fetch(0, 0);
        x.fetch(0, 1);
        due("200", x.lasts(0), 200);
        due("1", x.lasts(1), 1);
        passTo(x, 199);
        due("the last HOUR", x.lasts(0), 1);
    }

    static void promise31_tillTheCoinIsGone() {
        PainPorters x = of("sort s;person m 7;porter r 9 2;porter q 9 3;pain a m s 1 99;pain b m s 1 99;");
        x.fetch(0, 0);
        due("2 of 7", x.lasts(0), 3);
        x.fetch(1, 1);
        // 2 and 3 of 7, then 2 of 2 and 3 of 0.
        due("beside another", x.lasts(0), 2);
        due("the other", x.lasts(1), 1);
    }

    static void promise31_noneAtAll() {
        PainPorters x = of("sort s;person m 1;porter r 9 1;porter q 9 2;pain a m s 1 99;");
        x.fetch(0, 0);
        x.hand(0, 0, 1);
        due("handed to one who is too dear", x.lasts(0), 0);
    }

    static void promise31_itChangesNothing() {
        PainPorters x = of(SMALL);
        x.fetch(0, 0);
        String before = look(x);
        due("lasts(0)", x.lasts(0), 5);
        due("all", look(x), before);
    }

    // ---- Promise 32: cheapest

    static void promise32_noSuchOne() {
        PainPorters x = of(SMALL);
        due("cheapest(4)", x.cheapest(4), NONE);
        for (int p : NO_SUCH) {
            due("cheapest(" + p + ")", x.cheapest(p), NONE);
        }
    }

    static void promise32_itIsOver() {
        PainPorters x = of("sort s;person m 9;porter r 9 0;pain a m s 1 1;");
        due("ahead", x.cheapest(0), 0);
        x.hours(1);
        due("over", x.cheapest(0), NONE);
    }

    static void promise32_noneCan() {
        due("no PORTERS", of("sort s;person m 9;pain a m s 1 1;").cheapest(0), NONE);
        due("fixed", of("sort s fixed;person m 9;porter r 9 0;pain a m s 1 1;").cheapest(0), NONE);
        due("barred", of("sort s;person m 9;porter r 9 0;bars r s;pain a m s 1 1;").cheapest(0), NONE);
        due("too heavy", of("sort s;person m 9;porter r 8 0;pain a m s 9 1;").cheapest(0), NONE);
        due("just not", of("sort s;person m 9;porter r 9 0;pain a m s 9 1;").cheapest(0), 0);
        PainPorters x = of("sort s;sort f fixed;person m 9;porter q 1 1;porter r 1 1;porter t 1 1;porter u 1 1;"
                + "porter v 1 1;"
                + "pain a m s 2 1;pain b m f 1 1;");
        due("too heavy for all five", x.cheapest(0), NONE);
        due("fixed, for all five", x.cheapest(1), NONE);
        due("hopeless for all five", x.hopeless(), 3);
    }

    static void promise32_nobodyOfAnEarlierTown() {
        PainPorters x = of("sort s;person m 9;porter r 40 0;porter q 40 0;porter t 40 0;pain a m s 9 9;");
        town(x, "sort s;person m 9;porter r 40 0;porter q 40 0;porter t 40 0;pain a m s 9 9;");
        town(x, "sort s;person m 9;porter r 8 0;pain a m s 9 9;");
        due("cheapest(0)", x.cheapest(0), NONE);
        due("hopeless()", x.hopeless(), 1);
        due("free(1, 1)", x.free(1, 1), NONE);
        due("fewest(1)", x.fewest(1), NONE);
    }

    static void promise32_oneWhoHasItIsLeftOut() {
        PainPorters x = of("sort s;person m 9;porter r 9 1;porter q 9 2;porter t 4 0;pain a m s 5 9;");
        due("ahead", x.cheapest(0), 0);
        x.fetch(0, 0);
        due("the next", x.cheapest(0), 1);
        x.hand(0, 0, 1);
        due("the first again", x.cheapest(0), 0);
        PainPorters y = of("sort s;person m 9;porter r 9 1;pain a m s 5 9;");
        y.fetch(0, 0);
        due("none but him", y.cheapest(0), NONE);
        PainPorters z = of("sort s;person m 9;porter r 9 2;porter q 9 1;pain a m s 5 9;");
        z.fetch(1, 0);
        due("the dearer one", z.cheapest(0), 0);
    }

    static void promise32_ofLikeOnesTheFirst() {
        PainPorters x = of("sort s;person m 0;porter r 9 5;porter q 9 4;porter t 9 4;porter u 9 20;pain a m s 5 9;");
        due("coin is of no matter", x.cheapest(0), 1);
    }

    static void promise32_whoCanCarryItNow() {
        PainPorters x = of("sort s;sort t;talks s t;person m 9;porter r 9 1;porter q 9 2;pain a m s 5 9;pain b m t 1 9;");
        x.fetch(0, 1);
        due("the first has what it talks to", x.cheapest(0), 1);
    }

    // ---- Promise 33: hopeless

    static void promise33_nothingAndAll() {
        due("no PAINS", of("porter r 9 1;").hopeless(), 0);
        due("no PORTERS", of("sort s;person m 9;pain a m s 1 9;pain b m s 1 9;").hopeless(), 3);
        due("eight", of(SORTS6 + PERSONS5 + PAINS8).hopeless(), 255);
    }

    static void promise33_thatAreNotOver() {
        PainPorters x = of("sort f fixed;person m 9;pain a m f 1 1;pain b m f 1 2;");
        due("both", x.hopeless(), 3);
        x.hours(1);
        due("one is over", x.hopeless(), 2);
        x.hours(1);
        due("both are", x.hopeless(), 0);
    }

    static void promise33_whoeverHasThem() {
        PainPorters x = of("sort s;person m 9;porter r 5 1;pain a m s 5 9;pain b m s 1 9;");
        due("none by itself", x.hopeless(), 0);
        x.fetch(0, 0);
        due("what he has he can carry; the other not beside it", x.hopeless(), 2);
        x.drop(0, 0);
        due("in the street", x.hopeless(), 0);
    }

    static void promise33_eachWhyNot() {
        PainPorters x = of("sort a;sort b;sort f fixed;sort x;talks a b;person m 9;porter r 9 1;bars r x;"
                + "pain c m a 1 9;pain d m b 1 9;pain e m f 1 9;pain g m x 1 9;pain h m a 9 9;");
        due("fixed and barred", x.hopeless(), 12);
        x.fetch(0, 0);
        due("talks and too heavy too", x.hopeless(), 30);
    }

    public static void main(String[] args) throws IllegalAccessException {
        runAll(Edge18To33Test.class, 18, 33);
    }
}
