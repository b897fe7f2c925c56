/** The boundaries of promises 6 to 17: what is so, acts, HOURS, undoing. See EdgeHelp. */
public final class Edge06To17Test extends EdgeHelp {
    // ---- Promise 6: pain

    static void promise06_eachWhat() {
        PainPorters x = of(SMALL);
        int[] burn = {1, 0, 5, 4, 1, 0, 0};
        for (int what = 0; what < 7; what++) {
            due("pain(3, " + what + ")", x.pain(3, what), burn[what]);
        }
    }

    static void promise06_noSuchPain() {
        PainPorters x = of(SMALL);
        throwsNoSuchElement("pain(4, 0)", () -> x.pain(4, 0));
        for (int p : NO_SUCH) {
            throwsNoSuchElement("pain(" + p + ", 0)", () -> x.pain(p, 0));
        }
        PainPorters full = of(FULL);
        due("the eighth", full.pain(7, 2), 8);
        throwsNoSuchElement("pain(8, 0)", () -> full.pain(8, 0));
    }

    static void promise06_noSuchWhat() {
        PainPorters x = of(SMALL);
        throwsNoSuchElement("pain(0, 7)", () -> x.pain(0, 7));
        for (int what : NO_SUCH) {
            throwsNoSuchElement("pain(0, " + what + ")", () -> x.pain(0, what));
        }
    }

    static void promise06_aThrowChangesNothing() {
        PainPorters x = of(SMALL);
        x.fetch(0, 0);
        x.feed(1, 2, 3, 4, 5);
        String before = look(x);
        throwsNoSuchElement("pain(9, 9)", () -> x.pain(9, 9));
        due("all", look(x), before);
        due("an act can be undone", x.undo(), 0);
    }

    static void promise06_whoHasIt() {
        PainPorters x = of(EASY + "porter q 40 0;pain e n s 1 1;");
        due("a PERSON", x.pain(2, 4), 1);
        x.fetch(0, 0);
        x.fetch(1, 1);
        due("the first PORTER", x.pain(0, 4), 10);
        due("the second PORTER", x.pain(1, 4), 11);
        drop(x, 0, 3);
        due("the street", x.pain(3, 4), 20);
        x.hours(1);
        due("over", x.pain(4, 4), 30);
        due("HOURS left of one that is over", x.pain(4, 3), 0);
    }

    static void promise06_howOftenDroppedAndPaidFor() {
        PainPorters x = of(EASY);
        drop(x, 0, 0);
        due("dropped", x.pain(0, 5), 1);
        due("not the others", x.pain(1, 5), 0);
        x.home(0);
        drop(x, 0, 0);
        due("dropped again", x.pain(0, 5), 2);
        x.home(0);
        x.fetch(0, 0);
        x.hours(7);
        due("HOURS paid for, by a FEE of 0", x.pain(0, 6), 7);
    }

    // ---- Promise 7: person

    static void promise07_noSuchPerson() {
        PainPorters x = of(SMALL);
        due("the last one", x.person(1, 0), 3);
        due("person(2, 0)", x.person(2, 0), NONE);
        for (int m : NO_SUCH) {
            due("person(" + m + ", 0)", x.person(m, 0), NONE);
        }
        due("person(5, 0) of five", of(FULL).person(5, 0), NONE);
    }

    static void promise07_noSuchWhat() {
        PainPorters x = of(SMALL);
        due("the last one", x.person(0, 4), 0);
        due("person(0, 5)", x.person(0, 5), NONE);
        for (int what : NO_SUCH) {
            due("person(0, " + what + ")", x.person(0, what), NONE);
        }
    }

    static void promise07_hisAreHisTillTheyAreOver() {
        PainPorters x = of("sort s;person m 9;person n 9;porter r 9 0;pain a m s 1 9;pain b m s 2 9;pain c m s 3 1;");
        x.fetch(0, 0);
        drop(x, 0, 1);
        due("with a PORTER and in the street", x.person(0, 1), 7);
        due("with him", x.person(0, 2), 4);
        due("WEIGHT with him", x.person(0, 3), 3);
        x.hours(1);
        x.hours(1);
        due("one is over", x.person(0, 1), 3);
        due("fell on him in HOUR 0", x.person(0, 2), 2);
        x.fetch(0, 1);
        x.hours(1);
        x.drop(0, 1);
        x.hours(1);
        due("HOUR 3: with another, still his", x.person(0, 1), 3);
        due("with the other", x.person(1, 2), 2);
        due("not the other's", x.person(1, 1), 0);
        due("WEIGHT with the other", x.person(1, 3), 2);
    }

    static void promise07_coinGoesTo0AndWhatHePaidIsKept() {
        PainPorters x = of("sort s;person m 3;porter r 9 1;pain a m s 1 9;");
        x.fetch(0, 0);
        x.hours(3);
        due("coin", x.person(0, 0), 0);
        due("paid", x.person(0, 4), 3);
        x.hours(1);
        due("coin stays at 0", x.person(0, 0), 0);
        due("paid", x.person(0, 4), 3);
    }

    // ---- Promise 8: porter

    static void promise08_noSuchPorter() {
        PainPorters x = of(SMALL);
        due("the last one", x.porter(1, 0), 9);
        throwsNoSuchElement("porter(2, 0)", () -> x.porter(2, 0));
        for (int r : NO_SUCH) {
            throwsNoSuchElement("porter(" + r + ", 0)", () -> x.porter(r, 0));
        }
        PainPorters full = of(FULL);
        throwsNoSuchElement("porter(5, 0) of five", () -> full.porter(5, 0));
    }

    static void promise08_noSuchWhat() {
        PainPorters x = of(SMALL);
        due("the last one", x.porter(1, 6), 2);
        throwsNoSuchElement("porter(0, 7)", () -> x.porter(0, 7));
        for (int what : NO_SUCH) {
            throwsNoSuchElement("porter(0, " + what + ")", () -> x.porter(0, what));
        }
    }

    static void promise08_aThrowChangesNothing() {
        PainPorters x = of(SMALL);
        x.fetch(0, 0);
        String before = look(x);
        throwsNoSuchElement("porter(2, 2)", () -> x.porter(2, 2));
        due("all", look(x), before);
        due("an act can be undone", x.undo(), 0);
    }

    static void promise08_learntAtTenHoursNotAtNine() {
        PainPorters x = of("sort z;sort s;person m 9;porter r 9 0;porter q 9 0;pain a m s 5 200;");
        x.fetch(0, 0);
        x.hours(9);
        due("at 9", x.porter(0, 5), 0);
        due("HEAVES", x.porter(0, 3), 5);
        x.hours(1);
        due("at 10", x.porter(0, 5), 2);
        due("HEAVES", x.porter(0, 3), 4);
        due("not the other PORTER", x.porter(1, 5), 0);
        due("the other HEAVES nothing", x.porter(1, 3), 0);
        x.hours(10);
        due("1 less and no more at 20", x.porter(0, 3), 4);
        x.drop(0, 0);
        due("LEARNT without it too", x.porter(0, 5), 2);
    }

    static void promise08_heaves1AtLeast() {
        PainPorters x = of("sort s;person m 9;porter r 9 0;pain a m s 1 200;pain b m s 2 200;pain c m s 3 200;");
        for (int p = 0; p < 3; p++) {
            x.fetch(0, p);
        }
        due("HEAVES all", x.porter(0, 3), 6);
        x.hours(10);
        due("1, 1 and 2", x.porter(0, 3), 4);
    }

    static void promise08_tenHoursNeedNotFollowOneAnother() {
        PainPorters x = of("sort s;person m 9;porter r 9 0;pain a m s 5 200;pain b m s 5 200;");
        x.fetch(0, 0);
        x.hours(6);
        x.home(0);
        x.hours(30);
        x.fetch(0, 1);
        x.hours(3);
        due("at 9", x.porter(0, 5), 0);
        x.hours(1);
        due("at 10, by two PAINS", x.porter(0, 5), 1);
    }

    static void promise08_aSortIsAnHourMoreOnceWhateverPainsHeHasOfIt() {
        PainPorters x = of("sort s;person m 9;porter r 9 0;pain a m s 1 200;pain b m s 1 200;pain c m s 1 200;");
        for (int p = 0; p < 3; p++) {
            x.fetch(0, p);
        }
        x.hours(9);
        due("at 9", x.porter(0, 5), 0);
        x.hours(1);
        due("at 10", x.porter(0, 5), 1);
    }

    static void promise08_whatIsNotPaidForTeachesNothing() {
        PainPorters x = of("sort s;person m 9;porter r 9 1;pain a m s 5 200;");
        x.fetch(0, 0);
        x.hours(10);
        due("nine were paid", x.porter(0, 4), 9);
        due("LEARNT", x.porter(0, 5), 0);
        PainPorters y = of("sort s;person m 10;porter r 9 1;pain a m s 5 200;");
        y.fetch(0, 0);
        y.hours(10);
        due("ten were paid", y.porter(0, 5), 1);
    }

    static void promise08_theHourInWhichItWearsOffTeaches() {
        PainPorters x = of("sort s;person m 10;porter r 9 1;pain a m s 5 10;");
        x.fetch(0, 0);
        x.hours(10);
        due("over", x.pain(0, 4), 30);
        due("paid for", x.pain(0, 6), 10);
        due("LEARNT", x.porter(0, 5), 1);
        due("HEAVES nothing", x.porter(0, 3), 0);
    }

    static void promise08_theFifthPorterOfTheSixthSort() {
        PainPorters x = of(SORTS6 + PORTERS5 + "person g 999;pain q g f 5 99;pain r g a 3 99;");
        x.fetch(4, 0);
        x.fetch(4, 1);
        due("PAINS with him", x.porter(4, 2), 3);
        due("HEAVES", x.porter(4, 3), 8);
        x.hours(9);
        x.image(0);
        x.hours(1);
        due("LEARNT", x.porter(4, 5), 33);
        due("HEAVES", x.porter(4, 3), 6);
        due("earned", x.porter(4, 4), 100);
        x.undo();
        due("undone", x.porter(4, 5), 0);
        x.hours(1);
        due("LEARNT", x.porter(4, 5), 33);
        x.restore(0);
        due("restored", x.porter(4, 5), 0);
    }

    static void promise08_allSixSortsAsBits() {
        PainPorters x = of(SORTS6 + "person m 9;porter r 40 0;porter q 1 1;bars q f;bars q a;"
                + "pain g m a 2 99;pain h m b 2 99;pain i m c 2 99;pain j m d 2 99;pain k m e 2 99;pain l m f 2 99;");
        for (int p = 0; p < 6; p++) {
            x.fetch(0, p);
        }
        due("PAINS", x.porter(0, 2), 63);
        x.hours(10);
        due("LEARNT", x.porter(0, 5), 63);
        due("HEAVES", x.porter(0, 3), 6);
        due("barred", x.porter(1, 6), 33);
    }

    // ---- Promise 9: sort

    static void promise09_noSuchSort() {
        PainPorters x = of(SMALL);
        due("the last one", x.sort(2, 0), 1);
        due("sort(3, 0)", x.sort(3, 0), NONE);
        for (int s : NO_SUCH) {
            due("sort(" + s + ", 0)", x.sort(s, 0), NONE);
        }
        due("sort(6, 0) of six", of(FULL).sort(6, 0), NONE);
    }

    static void promise09_noSuchWhat() {
        PainPorters x = of(SMALL);
        due("sort(0, 2)", x.sort(0, 2), NONE);
        for (int what : NO_SUCH) {
            due("sort(0, " + what + ")", x.sort(0, what), NONE);
        }
    }

    static void promise09_talksGoBothWaysAndNoFurther() {
        PainPorters x = of("sort a;sort b;sort c;sort d;talks b a;talks b c;");
        due("a", x.sort(0, 1), 2);
        due("b", x.sort(1, 1), 5);
        due("c", x.sort(2, 1), 2);
        due("d", x.sort(3, 1), 0);
    }

    // ---- Promise 10: now

    static void promise10_anotherWhat() {
        PainPorters x = of(SMALL);
        due("now(7)", x.now(7), NONE);
        for (int what : NO_SUCH) {
            due("now(" + what + ")", x.now(what), NONE);
        }
    }

    static void promise10_theHourIs0To600() {
        PainPorters x = of(SMALL);
        due("at first", x.now(0), 0);
        passTo(x, 599);
        due("599", x.now(0), 599);
        x.hours(60);
        due("600", x.now(0), 600);
        x.hours(60);
        due("600 still", x.now(0), 600);
    }

    static void promise10_whoFeelsNothing() {
        PainPorters x = of(PERSONS5 + "sort s;porter r 9 0;pain a g s 1 9;pain b k s 2 2;");
        due("three", x.now(1), 14);
        drop(x, 0, 0);
        due("four: what lies in the street is felt by nobody", x.now(1), 15);
        x.hours(2);
        due("it fell on the first, the other is over", x.now(1), 30);
    }

    static void promise10_allPainsInOnePlace() {
        PainPorters x = of("sort s;person m 9;porter r 40 0;pain a m s 1 9;pain b m s 1 9;pain c m s 1 9;pain d m s 1 9;"
                + "pain e m s 1 9;pain f m s 1 9;pain g m s 1 9;pain h m s 1 9;");
        for (int p = 0; p < 8; p++) {
            x.fetch(0, p);
        }
        due("with PORTERS", x.now(6), 255);
        for (int p = 0; p < 8; p++) {
            x.drop(0, p);
        }
        due("with PORTERS", x.now(6), 0);
        due("in the street", x.now(2), 255);
        due("over", x.now(3), 0);
        x.hours(9);
        due("over", x.now(3), 255);
        due("in the street", x.now(2), 0);
    }

    static void promise10_allCoinAndAllEarned() {
        PainPorters x = of("sort s;person m 999;person n 999;person o 999;person p 999;person q 999;porter r 9 20;"
                + "porter t 9 20;pain a m s 1 9;pain b n s 1 9;");
        due("all coin", x.now(4), 4995);
        x.fetch(0, 0);
        x.fetch(1, 1);
        x.hours(2);
        due("all coin", x.now(4), 4915);
        due("all earned", x.now(5), 80);
    }

    // ---- Promise 11: fetch

    /** Two PERSONS, two PORTERS, SORTS that talk, one fixed, one barred to the first PORTER. */
    private static final String CROWD = "sort a;sort b;sort f fixed;sort x;talks a b;person m 2;person n 9;"
            + "porter r 9 3;porter q 9 2;bars r x;"
            + "pain c m a 5 9;pain d n b 5 9;pain e n a 4 9;pain g n f 1 9;pain h n x 1 9;pain i n a 5 9;pain j m a 4 9;";

    static void promise11_noSuchOnes() {
        PainPorters x = of(SMALL);
        due("fetch(2, 0)", x.fetch(2, 0), NONE);
        due("fetch(0, 4)", x.fetch(0, 4), NONE);
        for (int i : NO_SUCH) {
            due("fetch(" + i + ", 0)", x.fetch(i, 0), NONE);
            due("fetch(0, " + i + ")", x.fetch(0, i), NONE);
        }
        due("nothing was done", x.undo(), NONE);
    }

    static void promise11_1WithNoPerson() {
        PainPorters x = of(CROWD + "pain k m a 1 1;");
        due("done", x.fetch(0, 2), 0);
        due("with himself", x.fetch(0, 2), 1);
        due("with another PORTER", x.fetch(1, 2), 1);
        x.drop(0, 2);
        due("in the street", x.fetch(0, 2), 1);
        x.hours(1);
        due("over", x.fetch(1, 7), 1);
        due("fell on a PERSON", x.fetch(0, 2), 0);
    }

    static void promise11_1IsAheadOfTheOthers() {
        PainPorters x = of(CROWD);
        x.fetch(1, 4);
        due("barred, with another PORTER", x.fetch(0, 4), 1);
        x.fetch(1, 2);
        x.fetch(0, 1);
        due("talks to what he has, with another PORTER", x.fetch(0, 2), 1);
    }

    static void promise11_2FixedOrBarred() {
        PainPorters x = of(CROWD);
        due("fixed", x.fetch(0, 3), 2);
        due("fixed, for each", x.fetch(1, 3), 2);
        due("barred", x.fetch(0, 4), 2);
        due("not barred to the other", x.fetch(1, 4), 0);
    }

    static void promise11_2IsAheadOf3And4And5() {
        PainPorters x = of("sort a;sort b;talks a b;person m 0;person n 9;porter r 5 1;bars r b;pain c n a 5 9;"
                + "pain d m b 5 9;");
        x.fetch(0, 0);
        due("barred, talks, too heavy, too little coin", x.fetch(0, 1), 2);
    }

    static void promise11_3TalksToAnotherThatHeCarries() {
        PainPorters x = of(CROWD);
        due("a", x.fetch(0, 2), 0);
        due("b talks to a", x.fetch(0, 1), 3);
        due("the other carries none", x.fetch(1, 1), 0);
        due("a talks to b", x.fetch(1, 5), 3);
        x.home(1);
        x.drop(0, 2);
        due("what lies in the street is not carried, nor what is home again", x.fetch(0, 1), 0);
    }

    static void promise11_3NotToOneOfItsOwnSort() {
        PainPorters x = of(CROWD);
        x.fetch(0, 2);
        due("a beside a", x.fetch(0, 5), 0);
    }

    static void promise11_3IsAheadOf4And5() {
        PainPorters x = of("sort a;sort b;talks a b;person m 0;person n 9;porter r 5 1;pain c n a 5 9;pain d m b 5 9;");
        x.fetch(0, 0);
        due("talks, too heavy, too little coin", x.fetch(0, 1), 3);
    }

    static void promise11_4MoreThanHisStrength() {
        PainPorters x = of("sort a;person m 9;porter r 5 0;porter q 4 0;pain c m a 5 9;pain d m a 4 9;pain e m a 1 9;");
        due("more by 1", x.fetch(1, 0), 4);
        due("just as much", x.fetch(1, 1), 0);
        due("more by 1 in all", x.fetch(1, 2), 4);
        due("just as much", x.fetch(0, 0), 0);
        due("more by 1 in all", x.fetch(0, 2), 4);
    }

    static void promise11_4WhatIsLearntIsLighter() {
        PainPorters x = of("sort a;person m 9;porter r 5 0;pain c m a 3 99;pain d m a 4 99;pain e m a 3 99;"
                + "pain f m a 1 99;");
        x.fetch(0, 0);
        due("3 and 3", x.fetch(0, 2), 4);
        x.hours(9);
        due("3 and 3 at 9", x.fetch(0, 2), 4);
        x.hours(1);
        due("2 and 3 at 10", x.fetch(0, 1), 0);
        due("2 and 3 and 1", x.fetch(0, 3), 4);
        x.home(1);
        due("2 and 2", x.fetch(0, 2), 0);
        due("2 and 2 and 1", x.fetch(0, 3), 0);
    }

    static void promise11_4IsAheadOf5() {
        PainPorters x = of("sort a;person m 0;porter r 4 1;pain c m a 5 9;");
        due("too heavy, too little coin", x.fetch(0, 0), 4);
    }

    static void promise11_5CoinBelowTheFee() {
        PainPorters x = of(CROWD);
        due("2 of 3", x.fetch(0, 0), 5);
        due("2 of 2", x.fetch(1, 0), 0);
        PainPorters y = of("sort a;person m 0;porter r 4 0;pain c m a 1 9;");
        due("0 of 0", y.fetch(0, 0), 0);
    }

    static void promise11_5FetchingItselfTakesNoCoin() {
        PainPorters x = of(CROWD);
        due("2 of 2", x.fetch(1, 0), 0);
        due("coin", x.person(0, 0), 2);
        due("2 of 2 again", x.fetch(1, 6), 0);
    }

    static void promise11_5TheCoinOfWhoseItIsWhoeverHasIt() {
        PainPorters x = of("sort a;person m 0;person n 9;porter r 9 1;pain c n a 1 99;pain d m a 1 99;");
        drop(x, 0, 0);
        x.hours(1);
        due("with the first", x.pain(0, 4), 0);
        due("paid by the second", x.fetch(0, 0), 0);
        x.hours(1);
        due("coin", x.person(1, 0), 8);
        PainPorters y = of("sort a;person n 9;person m 0;porter r 9 1;porter q 9 0;pain c m a 1 99;");
        drop(y, 1, 0);
        y.hours(1);
        due("with one who has coin", y.pain(0, 4), 0);
        due("whose it is has none", y.fetch(0, 0), 5);
    }

    static void promise11_whatIsRefusedChangesNothing() {
        PainPorters x = of(CROWD);
        x.fetch(0, 2);
        String before = look(x);
        int[][] refused = {{0, 2, 1}, {0, 3, 2}, {0, 1, 3}, {0, 0, 5}, {1, 3, 2}, {0, 9, NONE}};
        for (int[] call : refused) {
            due("refused", x.fetch(call[0], call[1]), call[2]);
        }
        due("all", look(x), before);
        due("one act alone", x.undo(), 0);
    }

    // ---- Promise 12: hand

    private static final String HANDS = "sort a;sort b;sort c;talks a b;person m 9;porter r 9 1;porter q 5 20;"
            + "porter s 9 0;"
            + "bars s a;pain d m a 5 99;pain e m b 1 99;pain f m c 1 99;pain g m c 4 99;";

    static void promise12_noSuchOnes() {
        PainPorters x = of(HANDS);
        x.fetch(0, 0);
        due("hand(3, 0, 1)", x.hand(3, 0, 1), NONE);
        due("hand(0, 4, 1)", x.hand(0, 4, 1), NONE);
        due("hand(0, 0, 3)", x.hand(0, 0, 3), NONE);
        for (int i : NO_SUCH) {
            due("hand(" + i + ", 0, 1)", x.hand(i, 0, 1), NONE);
            due("hand(0, " + i + ", 1)", x.hand(0, i, 1), NONE);
            due("hand(0, 0, " + i + ")", x.hand(0, 0, i), NONE);
        }
        due("it is with him still", x.pain(0, 4), 10);
    }

    static void promise12_alike() {
        PainPorters x = of(HANDS);
        due("without it", x.hand(0, 0, 0), NONE);
        x.fetch(0, 0);
        due("with it", x.hand(0, 0, 0), NONE);
        due("one act alone", x.undo(), 0);
    }

    static void promise12_1NotWithThisOne() {
        PainPorters x = of(HANDS);
        due("with a PERSON", x.hand(0, 0, 1), 1);
        x.fetch(0, 0);
        due("with the other one", x.hand(1, 0, 0), 1);
        due("with a third one, and barred", x.hand(1, 0, 2), 1);
        x.drop(0, 0);
        due("in the street", x.hand(0, 0, 1), 1);
    }

    static void promise12_2To4ForTheOtherOne() {
        PainPorters x = of(HANDS);
        x.fetch(0, 0);
        due("barred", x.hand(0, 0, 2), 2);
        x.fetch(2, 1);
        due("done, for the coin is of no matter", x.hand(0, 0, 1), 0);
        due("talks", x.hand(2, 1, 1), 3);
        x.fetch(0, 2);
        due("too heavy by 1", x.hand(0, 2, 1), 4);
        x.home(0);
        x.fetch(0, 3);
        due("1 of 5", x.hand(0, 2, 1), 0);
        due("just as much as his STRENGTH", x.hand(0, 3, 1), 0);
    }

    static void promise12_theLeastOfThese() {
        PainPorters x = of("sort a;sort b;talks a b;person m 9;porter r 9 0;porter q 5 0;porter s 5 0;bars s a;"
                + "pain c m a 5 9;pain d m b 5 9;pain e m b 5 9;");
        x.fetch(0, 0);
        x.fetch(1, 1);
        x.fetch(2, 2);
        due("barred, talks, too heavy", x.hand(0, 0, 2), 2);
        due("talks, too heavy", x.hand(0, 0, 1), 3);
    }

    static void promise12_aHandingIsNoDroppingAndNoPay() {
        PainPorters x = of(HANDS);
        x.fetch(0, 3);
        due("done", x.hand(0, 3, 2), 0);
        due("who has it", x.pain(3, 4), 12);
        due("dropped", x.pain(3, 5), 0);
        due("coin", x.person(0, 0), 9);
    }

    static void promise12_whatIsRefusedChangesNothing() {
        PainPorters x = of(HANDS);
        x.fetch(0, 0);
        x.fetch(2, 1);
        x.hand(2, 1, 1);
        String before = look(x);
        int[][] refused = {{0, 0, 0, NONE}, {0, 0, 3, NONE}, {2, 0, 1, 1}, {0, 0, 2, 2}, {0, 0, 1, 3}};
        for (int[] call : refused) {
            due("refused", x.hand(call[0], call[1], call[2]), call[3]);
        }
        due("all", look(x), before);
        due("three acts alone", x.undo(), 2);
    }

    // ---- Promise 13: drop

    static void promise13_noSuchOnes() {
        PainPorters x = of(SMALL);
        x.fetch(0, 0);
        due("drop(2, 0)", x.drop(2, 0), NONE);
        due("drop(0, 4)", x.drop(0, 4), NONE);
        for (int i : NO_SUCH) {
            due("drop(" + i + ", 0)", x.drop(i, 0), NONE);
            due("drop(0, " + i + ")", x.drop(0, i), NONE);
        }
        due("it is with him still", x.pain(0, 4), 10);
    }

    static void promise13_1NotWithThisOne() {
        PainPorters x = of(SMALL);
        due("with a PERSON", x.drop(0, 0), 1);
        x.fetch(0, 0);
        due("with another PORTER", x.drop(1, 0), 1);
        due("done", x.drop(0, 0), 0);
        due("in the street", x.drop(0, 0), 1);
        due("how often", x.pain(0, 5), 1);
        x.hours(5);
        due("over", x.drop(0, 0), 1);
        due("how often", x.pain(0, 5), 1);
    }

    static void promise13_itLiesInTheStreet() {
        PainPorters x = of(SMALL);
        x.fetch(0, 0);
        x.drop(0, 0);
        due("in the street", x.now(2), 1);
        due("with nobody", x.person(0, 2), 2);
        due("he has none", x.porter(0, 2), 0);
    }

    static void promise13_whatIsRefusedChangesNothing() {
        PainPorters x = of(SMALL);
        x.fetch(0, 0);
        String before = look(x);
        due("with another", x.drop(1, 0), 1);
        due("with a PERSON", x.drop(0, 1), 1);
        due("no such one", x.drop(0, 4), NONE);
        due("all", look(x), before);
        due("one act alone", x.undo(), 0);
    }

    // ---- Promise 14: home

    static void promise14_noSuchOne() {
        PainPorters x = of(SMALL);
        due("home(4)", x.home(4), NONE);
        for (int p : NO_SUCH) {
            due("home(" + p + ")", x.home(p), NONE);
        }
    }

    static void promise14_1OverOrWithWhoseItIs() {
        PainPorters x = of(SMALL);
        due("with whose it is", x.home(0), 1);
        x.hours(5);
        due("over", x.home(0), 1);
        due("over still", x.pain(0, 4), 30);
        due("one act alone", x.undo(), 0);
    }

    static void promise14_fromAPorterTheStreetAndAnotherPerson() {
        PainPorters x = of("sort s;person m 9;person n 9;porter r 9 9;pain a n s 1 99;");
        x.fetch(0, 0);
        due("from a PORTER", x.home(0), 0);
        due("with whose it is", x.pain(0, 4), 1);
        drop(x, 0, 0);
        due("from the street", x.home(0), 0);
        due("with whose it is", x.pain(0, 4), 1);
        drop(x, 0, 0);
        x.hours(1);
        due("with another", x.pain(0, 4), 0);
        due("from another", x.home(0), 0);
        due("with whose it is", x.pain(0, 4), 1);
        due("for no coin", x.person(1, 0), 9);
    }

    static void promise14_whatIsRefusedChangesNothing() {
        PainPorters x = of(SMALL);
        x.hours(4);
        String before = look(x);
        due("with whose it is", x.home(0), 1);
        due("over", x.home(3), 1);
        due("no such one", x.home(4), NONE);
        due("all", look(x), before);
        due("one act alone", x.undo(), 0);
    }

    // ---- Promise 15: hours

    static void promise15_notAsTold() {
        PainPorters x = of(SMALL);
        String before = look(x);
        for (int n : new int[] {0, -1, LOW, 61, 62, 600, HIGH}) {
            due("hours(" + n + ")", x.hours(n), NONE);
        }
        due("all", look(x), before);
        due("nothing was done", x.undo(), NONE);
    }

    static void promise15_1To60() {
        PainPorters x = of(SMALL);
        due("hours(1)", x.hours(1), 1);
        due("hours(60)", x.hours(60), 60);
        due("now(0)", x.now(0), 61);
    }

    static void promise15_asManyAsAreLeft() {
        PainPorters x = of(SMALL);
        passTo(x, 541);
        due("59 are left", x.hours(60), 59);
        due("now(0)", x.now(0), 600);
        due("none are left", x.hours(1), 0);
        due("none are left", x.hours(60), 0);
        due("now(0)", x.now(0), 600);
    }

    static void promise15_notAsToldIsSoAtHour600Too() {
        PainPorters x = of(SMALL);
        passTo(x, 600);
        due("hours(0)", x.hours(0), NONE);
        due("hours(61)", x.hours(61), NONE);
    }

    static void promise15_asMuchCoinAsTheFee() {
        PainPorters x = of("sort s;person m 5;porter r 9 5;pain a m s 1 99;");
        x.fetch(0, 0);
        x.hours(1);
        due("coin", x.person(0, 0), 0);
        due("earned", x.porter(0, 4), 5);
        due("still with him", x.pain(0, 4), 10);
        due("paid for", x.pain(0, 6), 1);
    }

    static void promise15_lessCoinThanTheFee() {
        PainPorters x = of("sort s;person m 9;porter r 9 5;pain a m s 1 99;");
        x.fetch(0, 0);
        x.hours(2);
        due("coin", x.person(0, 0), 4);
        due("earned", x.porter(0, 4), 5);
        due("with whose it is", x.pain(0, 4), 0);
        due("paid for", x.pain(0, 6), 1);
        due("dropped", x.pain(0, 5), 0);
    }

    static void promise15_aFeeOf0IsPaidWithoutCoin() {
        PainPorters x = of("sort s;person m 0;porter r 9 0;pain a m s 1 99;");
        x.fetch(0, 0);
        x.hours(60);
        due("still with him", x.pain(0, 4), 10);
        due("paid for", x.pain(0, 6), 60);
    }

    static void promise15_painByPainInTheirOrder() {
        // 5 coins: 3 for the first, 3 for the second are not there, 2 for the third are.
        PainPorters x = of("sort s;person m 5;porter r 9 3;porter q 9 2;pain a m s 1 99;pain b m s 1 99;"
                + "pain c m s 1 99;");
        x.fetch(0, 0);
        x.fetch(0, 1);
        x.fetch(1, 2);
        x.hours(1);
        due("the first", x.pain(0, 4), 10);
        due("the second", x.pain(1, 4), 0);
        due("the third", x.pain(2, 4), 11);
        due("coin", x.person(0, 0), 0);
        x.hours(1);
        due("with PORTERS", x.now(6), 0);
    }

    static void promise15_whatIsNotPaidForIsWithWhoseItIsNotWhereItWas() {
        PainPorters x = of("sort s;person m 9;person n 1;porter r 9 1;pain a n s 1 99;");
        drop(x, 0, 0);
        x.hours(1);
        due("fell on the first", x.pain(0, 4), 0);
        x.fetch(0, 0);
        x.hours(2);
        due("with whose it is", x.pain(0, 4), 1);
    }

    static void promise15_at0ItIsOver() {
        PainPorters x = of("sort s;person m 9;porter r 9 1;pain a m s 1 1;pain b m s 1 2;pain c m s 1 3;");
        x.fetch(0, 1);
        x.hours(1);
        due("one HOUR", x.now(3), 1);
        due("HOURS left", x.pain(1, 3), 1);
        x.hours(1);
        due("two HOURS, with a PORTER", x.now(3), 3);
        due("paid for in its last HOUR too", x.pain(1, 6), 2);
        x.hours(60);
        due("three HOURS", x.now(3), 7);
        due("not below 0", x.pain(0, 3), 0);
    }

    static void promise15_inTheStreetItWearsOffToo() {
        PainPorters x = of("sort s;person m 9;person n 9;porter r 9 0;pain a m s 1 1;pain b m s 1 2;");
        drop(x, 0, 0, 1);
        x.hours(1);
        due("over, it falls on nobody", x.pain(0, 4), 30);
        due("the other fell", x.pain(1, 4), 0);
        due("HOURS left", x.pain(1, 3), 1);
    }

    static void promise15_itFallsOnThePersonOfTheHoursRest() {
        PainPorters x = of(PERSONS5 + "sort s;porter r 9 0;pain a j s 1 200;");
        int[] hours = {0, 1, 4, 5, 6, 9, 63, 199};
        int[] due = {0, 1, 4, 0, 1, 4, 3, 30};
        for (int i = 0; i < hours.length; i++) {
            passTo(x, hours[i]);
            drop(x, 0, 0);
            x.hours(1);
            due("by HOUR " + hours[i], x.pain(0, 4), due[i]);
        }
    }

    static void promise15_oneAloneHasAllThatFalls() {
        PainPorters x = of("sort s;person m 9;porter r 9 0;pain a m s 1 99;");
        x.hours(7);
        drop(x, 0, 0);
        x.hours(1);
        due("by HOUR 7", x.pain(0, 4), 0);
    }

    static void promise15_allInTheStreetFallOnTheSameOne() {
        PainPorters x = of(EASY);
        x.hours(1);
        drop(x, 0, 0, 1, 2, 3);
        x.hours(1);
        due("by HOUR 1", x.person(1, 2), 15);
        due("the street is empty", x.now(2), 0);
    }

    static void promise15_manyHoursAreAsOneByOne() {
        PainPorters x = of(SMALL);
        PainPorters y = of(SMALL);
        for (PainPorters z : new PainPorters[] {x, y}) {
            z.fetch(0, 0);
            z.fetch(1, 3);
        }
        x.hours(7);
        for (int i = 0; i < 7; i++) {
            y.hours(1);
        }
        due("all", look(x), look(y));
    }

    // ---- Promise 16: undo

    static void promise16_noneIs() {
        PainPorters x = of(SMALL);
        due("undo()", x.undo(), NONE);
        x.fetch(0, 0);
        due("one", x.undo(), 0);
        due("none is left", x.undo(), NONE);
        due("undo() itself is not undone", x.pain(0, 4), 0);
    }

    static void promise16_eachActIsUndone() {
        PainPorters x = of(SMALL);
        String[] before = new String[7];
        for (int act = 0; act < 7; act++) {
            before[act] = look(x);
            switch (act) {
                case 0: x.fetch(0, 0); break;
                case 1: x.hand(0, 0, 1); break;
                case 2: x.drop(1, 0); break;
                case 3: x.home(0); break;
                case 4: x.hours(2); break;
                case 5: x.drawn(2, 7); break;
                default: log(x, "hour 1;hour 1;", 1); break;
            }
        }
        for (int act = 6; act >= 0; act--) {
            due("how many more", x.undo(), act);
            due("all, ahead of act " + act, look(x), before[act]);
        }
    }

    static void promise16_whatWasNotDoneIsNotUndone() {
        PainPorters x = of(SMALL);
        due("fetch", x.fetch(0, 2), 2);
        due("hand", x.hand(0, 0, 1), 1);
        due("drop", x.drop(0, 0), 1);
        due("home", x.home(0), 1);
        due("hours", x.hours(0), NONE);
        due("drawn", x.drawn(61, 1), NONE);
        due("a LOG with a FAULT", log(x, "hour 1;hour", 1), -13);
        due("a LOG that is judged", log(x, "hour 1;", 0), NONE);
        due("another lives", x.log(2), -1000);
        due("undo()", x.undo(), NONE);
    }

    static void promise16_whatOnlyLooksIsNotUndone() {
        PainPorters x = of(SMALL);
        x.free(1, 5);
        x.fewest(3);
        x.rest();
        x.ease(0);
        x.later(0, 50);
        x.odds(0, 5, 1);
        limps(x, 7, 7);
        sentence(x, "over");
        x.image(0);
        due("undo()", x.undo(), NONE);
    }

    static void promise16_hoursAndDrawnOf0AreNotUndone() {
        PainPorters x = of(SMALL);
        passTo(x, 599);
        due("hours", x.hours(60), 1);
        due("hours of 0", x.hours(60), 0);
        due("drawn of 0", x.drawn(60, 1), 0);
        x.undo();
        due("the last HOUR is undone", x.now(0), 599);
    }

    static void promise16_aLogIsOneAct() {
        PainPorters x = of(SMALL);
        String before = look(x);
        String faulty = "pim fetches tooth;hour 2;pim drops tooth;hour 1;tooth fetches";
        due("a FAULT in its last LINE", log(x, faulty, 1), -2 - 54);
        due("nothing is lived", look(x), before.replace("fault 0", "fault 1"));
        due("lived", log(x, "pim fetches tooth;hour 2;pim drops tooth;hour 1;pim drops loss;", 1), 4);
        due("now(0)", x.now(0), 3);
        due("undo()", x.undo(), 0);
        due("all", look(x), before);
    }

    static void promise16_eightAtMostAreKept() {
        PainPorters x = of(EASY);
        for (int i = 0; i < 9; i++) {
            x.hours(1);
        }
        for (int more = 7; more >= 0; more--) {
            due("how many more", x.undo(), more);
            due("now(0)", x.now(0), more + 1);
        }
        due("the ninth", x.undo(), NONE);
        due("now(0)", x.now(0), 1);
    }

    static void promise16_eightOfManyAreTheLatest() {
        PainPorters x = of(EASY);
        for (int i = 1; i <= 20; i++) {
            x.hours(1);
        }
        for (int i = 0; i < 3; i++) {
            x.undo();
        }
        due("now(0)", x.now(0), 17);
        for (int i = 0; i < 5; i++) {
            x.hours(2);
        }
        for (int i = 0; i < 5; i++) {
            due("how many more", x.undo(), 7 - i);
        }
        due("now(0)", x.now(0), 17);
        for (int i = 0; i < 3; i++) {
            due("how many more", x.undo(), 2 - i);
        }
        due("now(0)", x.now(0), 14);
        due("the ninth", x.undo(), NONE);
    }

    static void promise16_allOfAnHourIsUndone() {
        PainPorters x = of("sort s;person m 40;person n 9;porter r 9 1;pain a m s 5 99;pain b m s 1 10;pain c n s 1 99;");
        x.fetch(0, 0);
        x.hours(9);
        drop(x, 0, 2);
        String before = look(x);
        x.hours(1);
        due("LEARNT", x.porter(0, 5), 1);
        due("over", x.now(3), 2);
        x.undo();
        due("all", look(x), before);
        x.hours(1);
        due("LEARNT again", x.porter(0, 5), 1);
    }

    static void promise16_aNewTownAndARestoringLeaveNothingToUndo() {
        PainPorters x = of(SMALL);
        x.image(0);
        x.hours(1);
        x.restore(0);
        due("behind restore()", x.undo(), NONE);
        x.hours(1);
        town(x, EASY);
        due("behind town()", x.undo(), NONE);
        x.hours(1);
        due("one act of the new TOWN", x.undo(), 0);
    }

    // ---- Promise 17: can

    static void promise17_noSuchOnes() {
        PainPorters x = of(SMALL);
        due("can(2, 0)", x.can(2, 0), NONE);
        due("can(0, 4)", x.can(0, 4), NONE);
        for (int i : NO_SUCH) {
            due("can(" + i + ", 0)", x.can(i, 0), NONE);
            due("can(0, " + i + ")", x.can(0, i), NONE);
        }
    }

    static void promise17_itIsOver() {
        PainPorters x = of(SMALL);
        x.hours(3);
        due("one HOUR is left", x.can(1, 3), 0);
        x.hours(1);
        due("over", x.can(1, 3), NONE);
        x.hours(5);
        due("over, and fixed", x.can(0, 2), NONE);
    }

    static void promise17_whyNot() {
        PainPorters x = of(CROWD);
        due("he can", x.can(0, 0), 0);
        due("fixed", x.can(0, 3), 2);
        due("barred", x.can(0, 4), 2);
        x.fetch(0, 2);
        due("talks", x.can(0, 1), 3);
        x.fetch(0, 5);
        due("too heavy", x.can(0, 0), 4);
        due("talks and too heavy", x.can(0, 1), 3);
        due("for another", x.can(1, 0), 0);
    }

    static void promise17_oneThatHeHasCountsOnce() {
        PainPorters x = of("sort a;person m 9;porter r 9 0;porter q 9 0;pain c m a 5 99;pain d m a 4 99;"
                + "pain e m a 1 99;");
        x.fetch(0, 0);
        x.fetch(0, 1);
        due("HEAVES all that he can", x.porter(0, 3), 9);
        due("the first that he has", x.can(0, 0), 0);
        due("the second that he has", x.can(0, 1), 0);
        due("one more", x.can(0, 2), 4);
        due("the other PORTER", x.can(1, 0), 0);
    }

    static void promise17_coinAndWhoHasItAreOfNoMatter() {
        PainPorters x = of("sort a;person m 0;porter r 9 20;porter q 9 0;pain c m a 9 99;");
        due("without coin", x.can(0, 0), 0);
        x.fetch(1, 0);
        due("with another PORTER", x.can(0, 0), 0);
        x.drop(1, 0);
        due("in the street", x.can(0, 0), 0);
    }

    public static void main(String[] args) throws IllegalAccessException {
        runAll(Edge06To17Test.class, 6, 17);
    }
}
