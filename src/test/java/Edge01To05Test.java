/** The boundaries of promises 1 to 5: the tape, the text of a TOWN, FAULTS. See EdgeHelp. */
public final class Edge01To05Test extends EdgeHelp {
    // ---- Promise 1: a new object

    static void promise01_anEmptyTownAndAnEmptyTape() {
        PainPorters x = new PainPorters();
        due("all", look(x), "now 0 0 0 0 0 0 0, count 0 0 0 0 1 0, said -1, fault 0");
    }

    static void promise01_thereIsNothingInIt() {
        PainPorters x = new PainPorters();
        throwsNoSuchElement("pain(0, 0)", () -> x.pain(0, 0));
        throwsNoSuchElement("porter(0, 0)", () -> x.porter(0, 0));
        due("person(0, 0)", x.person(0, 0), NONE);
        due("sort(0, 0)", x.sort(0, 0), NONE);
        due("fetch(0, 0)", x.fetch(0, 0), NONE);
        due("hand(0, 0, 1)", x.hand(0, 0, 1), NONE);
        due("drop(0, 0)", x.drop(0, 0), NONE);
        due("home(0)", x.home(0), NONE);
        due("undo()", x.undo(), NONE);
        due("can(0, 0)", x.can(0, 0), NONE);
        due("free(1, 1)", x.free(1, 1), NONE);
        due("fewest(1)", x.fewest(1), NONE);
        due("share(0, 0)", x.share(0, 0), NONE);
        due("ease(0)", x.ease(0), NONE);
        due("later(0, 0)", x.later(0, 0), NONE);
        due("lasts(0)", x.lasts(0), NONE);
        due("cheapest(0)", x.cheapest(0), NONE);
        due("hopeless()", x.hopeless(), 0);
        due("drawn(1, 1)", x.drawn(1, 1), NONE);
        due("odds(0, 1, 1)", x.odds(0, 1, 1), NONE);
    }

    static void promise01_nothingWasToldAheadOfAnyCall() {
        PainPorters x = of(FULL);
        for (int i = 0; i < 8; i++) {
            due("by(" + i + ")", x.by(i), NONE);
            due("load(" + i + ")", x.load(i), NONE);
            due("surely(" + i + ")", x.surely(i), NONE);
            due("fee(" + i + ")", x.fee(i), NONE);
            due("logged(" + i + ")", x.logged(i), NONE);
            due("said(" + i + ")", x.said(i), NONE);
        }
        due("ask()", x.ask(), NONE);
        due("said(NONE)", x.said(NONE), NONE);
        due("restore(0)", x.restore(0), false);
        due("restore(1)", x.restore(1), false);
    }

    static void promise01_hoursGoByInAnEmptyTown() {
        PainPorters x = new PainPorters();
        due("hours(60)", x.hours(60), 60);
        due("now(0)", x.now(0), 60);
        due("undo()", x.undo(), 0);
        due("now(0)", x.now(0), 0);
    }

    static void promise01_noneIsMinusOne() {
        due("NONE", PainPorters.NONE, -1);
    }

    static void promise01_twoObjectsHaveNothingInCommon() {
        PainPorters x = of(SMALL);
        PainPorters y = new PainPorters();
        x.fetch(0, 0);
        x.hours(2);
        x.image(0);
        x.rest();
        due("all of the other", look(y), look(new PainPorters()));
        due("an image", y.restore(0), false);
        due("an act", y.undo(), NONE);
    }

    static void promise01_the512thCallIsAnsweredAsAnyOther() {
        PainPorters x = of(EASY);
        // of() has made 9 calls: end, 6 feeds, end, town.
        for (int call = 10; call < 512; call += 2) {
            x.fetch(0, 0);
            x.undo();
        }
        due("the 512th call", x.fetch(0, 3), 0);
    }

    // ---- Promise 2: feed

    static void promise02_twentyBytesEachNumbersHighestFirst() {
        PainPorters x = new PainPorters();
        // "sort ab;person cd 7;"
        due("feed", x.feed(0x736f7274, 0x2061623b, 0x70657273, 0x6f6e2063, 0x6420373b), 20);
        due("town()", x.town(), 2);
        due("coin", x.person(0, 0), 7);
    }

    static void promise02_theyComeBehindTheTape() {
        PainPorters x = new PainPorters();
        x.feed(0x736f7274, 0x20610000, 0, 0, 0);
        x.end(6);
        due("feed behind six bytes", x.feed(0x6263643b, 0x20202020, 0x20202020, 0x20202020, 0x20202020), 26);
        due("town() of 'sort abcd;'", x.town(), 1);
    }

    static void promise02_bytesOf128AndMoreAreNoBlanksLettersDigitsSigns() {
        badTown((char) (32 + 128) + "sort a;", 0, 1);
        badTown("sort" + (char) (10 + 128) + "a;", 4, 1);
        badTown("sort a" + (char) (';' + 128), 6, 1);
        badTown("sort " + (char) ('a' + 128) + ";", 5, 1);
        badTown("harm " + (char) ('1' + 128) + ";", 5, 1);
        badTown("harm 1;" + (char) 255, 7, 1);
    }

    static void promise02_940BytesCome() {
        PainPorters x = new PainPorters();
        for (int n = 20; n <= 940; n += 20) {
            due("feed", x.feed(-1, 0, HIGH, LOW, 1), n);
        }
        due("count(5)", x.count(5), 940);
    }

    static void promise02_moreThan940NoneCome() {
        PainPorters x = new PainPorters();
        for (int n = 0; n < 47; n++) {
            x.feed(0x20202020, 0x20202020, 0x20202020, 0x20202020, 0x20202020);
        }
        due("feed to 960", x.feed(1, 2, 3, 4, 5), NONE);
        due("none came", x.count(5), 940);
        x.end(921);
        due("feed to 941", x.feed(1, 2, 3, 4, 5), NONE);
        due("none came", x.count(5), 921);
        x.end(900);
        due("blanks stayed", x.town(), 0);
    }

    static void promise02_justAsManyAsMayCome() {
        PainPorters x = new PainPorters();
        type(x, times(920, " "));
        due("feed to 940", x.feed(1, 2, 3, 4, 5), 940);
        x.end(919);
        due("feed to 939", x.feed(1, 2, 3, 4, 5), 939);
    }

    // ---- Promise 3: end

    static void promise03_theFirstBytesAlone() {
        PainPorters x = new PainPorters();
        type(x, "harm 12;harm 3;");
        due("end(8)", x.end(8), true);
        due("count(5)", x.count(5), 8);
        due("town()", x.town(), 1);
        due("'harm'", x.count(4), 12);
    }

    static void promise03_asManyAsItHas() {
        PainPorters x = new PainPorters();
        x.feed(0, 0, 0, 0, 0);
        due("end(20)", x.end(20), true);
        due("count(5)", x.count(5), 20);
    }

    static void promise03_moreThanItHas() {
        PainPorters x = new PainPorters();
        x.feed(0, 0, 0, 0, 0);
        due("end(21)", x.end(21), false);
        due("end(HIGH)", x.end(HIGH), false);
        due("it stays", x.count(5), 20);
        x.end(7);
        due("bytes that are gone", x.end(8), false);
        due("it stays", x.count(5), 7);
    }

    static void promise03_below0() {
        PainPorters x = new PainPorters();
        x.feed(0, 0, 0, 0, 0);
        due("end(-1)", x.end(-1), false);
        due("end(LOW)", x.end(LOW), false);
        due("it stays", x.count(5), 20);
    }

    static void promise03_ofNone() {
        PainPorters x = new PainPorters();
        due("end(0) of an empty tape", x.end(0), true);
        due("end(1) of an empty tape", x.end(1), false);
        x.feed(0, 0, 0, 0, 0);
        due("end(0)", x.end(0), true);
        due("count(5)", x.count(5), 0);
    }

    // ---- Promise 4: town

    static void promise04_aTownWithoutALine() {
        goodTown("", 0);
        goodTown(" ", 0);
        goodTown("\n \n", 0);
    }

    static void promise04_eachLineIsCounted() {
        goodTown(SMALL, 14);
        goodTown(FULL, 41);
    }

    static void promise04_theTapeIsEmptyThen() {
        PainPorters x = of(SMALL);
        due("behind a TOWN", x.count(5), 0);
        town(x, "sort");
        due("behind a FAULT", x.count(5), 0);
    }

    static void promise04_aFaultLeavesAllAsItIs() {
        PainPorters x = of(SMALL);
        x.fetch(0, 0);
        x.hours(3);
        sentence(x, "is ache");
        String before = look(x);
        due("town()", town(x, "sort z;person y 5;harm 4;person"), -1 - 31);
        due("all but the FAULT", look(x), before.replace("fault 0", "fault 1"));
        due("a NAME of the TOWN that stays", log(x, "pim drops tooth;", 0), NONE);
        due("an act can be undone", x.undo(), 1);
    }

    static void promise04_aNewTownIsHour0WithNothingOfTheOldOne() {
        PainPorters x = of("sort s;person m 999;person n 9;porter r 9 1;pain a m s 1 200;pain b n s 2 200;harm 5;");
        sentence(x, "is s");
        x.fetch(0, 0);
        x.hours(11);
        drop(x, 0, 1);
        x.hours(1);
        due("a new TOWN", town(x, "sort t fixed;sort u;person z 5;porter y 2 3;pain c z u 2 9;"), 5);
        due("all", look(x), "now 0 0 0 0 5 0 0, count 2 1 1 1 1 0, sort 1 0, sort 0 0, person 5 1 1 2 0, "
                + "porter 2 3 0 0 0 0 0, pain 0 1 2 9 0 0 0, said -1, fault 0");
        due("nothing can be undone", x.undo(), NONE);
        due("an old NAME", log(x, "r fetches c;", 0), -2);
        due("its FAULT", x.fault(), 3);
    }

    static void promise04_theSameTownAgainIsANewOne() {
        PainPorters x = of(SMALL);
        String before = look(x);
        x.fetch(0, 0);
        drop(x, 1, 3);
        x.hours(12);
        due("town()", town(x, SMALL), 14);
        due("all", look(x), before);
    }

    static void promise04_anEmptyTownIsATownToo() {
        PainPorters x = of(SMALL);
        due("town() of an empty tape", x.town(), 0);
        due("all", look(x), look(new PainPorters()));
    }

    static void promise04_900Bytes() {
        goodTown(wide(900, "sort a;"), 1);
        goodTown("sort a;" + times(893, "\n"), 1);
        goodTown(times(900, " "), 0);
    }

    static void promise04_moreThan900Bytes() {
        badTown(wide(901, "sort a;"), 900, 1);
        badTown("sort a;" + times(894, " "), 900, 1);
        badTown(times(901, " "), 900, 1);
        badTown(times(940, "\n"), 900, 1);
    }

    static void promise04_sixSorts() {
        goodTown(SORTS6, 6);
        badTown(SORTS6 + " sort z;", SORTS6.length() + 1, 4);
    }

    static void promise04_eightTalks() {
        String most = SORTS6 + TALKS8;
        goodTown(most, 14);
        badTown(most + "talks b f;", most.length(), 4);
    }

    static void promise04_fivePersons() {
        goodTown(PERSONS5, 5);
        badTown(PERSONS5 + "person z 1;", PERSONS5.length(), 4);
    }

    static void promise04_fivePorters() {
        goodTown(PORTERS5, 5);
        badTown(PORTERS5 + "porter z 1 1;", PORTERS5.length(), 4);
    }

    static void promise04_eightBars() {
        String most = SORTS6 + PORTERS5 + BARS8;
        goodTown(most, 19);
        badTown(most + "bars p f;", most.length(), 4);
    }

    static void promise04_eightPains() {
        String most = SORTS6 + PERSONS5 + PAINS8;
        goodTown(most, 19);
        badTown(most + "pain z g a 1 1;", most.length(), 4);
    }

    static void promise04_allOfAFullTownIsKept() {
        due("all", look(of(FULL)), "now 0 0 0 0 15 0 0, count 6 5 5 8 7 0, sort 0 62, sort 0 29, sort 0 3, sort 0 3, "
                + "sort 0 3, sort 0 1, person 1 33 33 7 0, person 2 66 66 9 0, person 3 132 132 11 0, person 4 8 8 4 0, "
                + "person 5 16 16 5 0, porter 11 1 0 0 0 0 63, porter 12 2 0 0 0 0 3, porter 13 3 0 0 0 0 0, "
                + "porter 14 4 0 0 0 0 0, porter 15 5 0 0 0 0 0, pain 0 0 1 1 0 0 0, pain 1 1 2 2 1 0 0, "
                + "pain 2 2 3 3 2 0 0, pain 3 3 4 4 3 0 0, pain 4 4 5 5 4 0 0, pain 0 5 6 6 0 0 0, pain 1 0 7 7 1 0 0, "
                + "pain 2 1 8 8 2 0 0, said -1, fault 0");
    }

    static void promise04_allNamesOfAFullTownAreKnown() {
        PainPorters x = of(FULL);
        for (String porter : new String[] {"l", "m", "n", "o", "p"}) {
            for (String pain : new String[] {"q", "r", "s", "t", "u", "v", "w", "x"}) {
                due(porter + " drops " + pain, log(x, porter + " drops " + pain + ";", 0), 0);
                due("why not", x.logged(0), 21);
            }
        }
        for (String pain : new String[] {"q", "r", "s", "t", "u", "v", "w", "x"}) {
            due(pain + " home", log(x, pain + " home;", 0), 0);
            due("why not", x.logged(0), 31);
        }
        due("of k or is f", saying(x, "of k or is f"), "45");
        due("one that is not told", log(x, "z home;", 0), -2);
        due("fault()", x.fault(), 3);
    }

    static void promise04_nothingOfEarlierTextsIsLeft() {
        String[] ahead = {FULL, FULL + "!", "sort a fixed;sort b fixed;talks a b;person z 999;porter y 40 20;bars y a;"
                + "bars y b;pain w z a 9 200;pain v z b 9 200;harm 12;"};
        String next = "sort a;sort b;person c 3;porter d 5 1;pain e c a 2 9;pain f c b 3 9;";
        for (String first : ahead) {
            for (String second : ahead) {
                PainPorters x = new PainPorters();
                town(x, first);
                town(x, second);
                due("town()", town(x, next), 6);
                due("all", look(x), look(of(next)));
                x.fetch(0, 0);
                due("nothing talks, nothing is barred", x.fetch(0, 1), 0);
                due("an old NAME of a PORTER", log(x, "y drops e;", 0), -2);
                due("an old NAME of a PAIN", log(x, "v home;", 0), -2);
                due("shared out to one alone", x.share(7, 0), 7);
            }
        }
    }

    static void promise04_aNameMayHaveBeenToldInAnEarlierText() {
        PainPorters x = of("person z 1;porter y 1 1;");
        town(x, "person z 1;porter y 1 1;sort");
        due("town()", town(x, "person z 1;sort y;"), 2);
        due("town()", town(x, "person z 1;"), 1);
        due("y is none", log(x, "y fetches z;", 0), -2);
        due("fault()", x.fault(), 3);
    }

    static void promise04_coinOf0To999() {
        PainPorters x = of("person m 0;person n 999;person o 000;person p 07;");
        due("the least", x.person(0, 0), 0);
        due("the most", x.person(1, 0), 999);
        due("three digits", x.person(2, 0), 0);
        due("two digits", x.person(3, 0), 7);
        badTown("person m 1000;", 9, 1);
    }

    static void promise04_strengthOf1To40() {
        PainPorters x = of("porter r 1 5;porter s 40 5;");
        due("the least", x.porter(0, 0), 1);
        due("the most", x.porter(1, 0), 40);
        badTown("porter r 0 5;", 9, 2);
        badTown("porter r 41 5;", 9, 2);
        badTown("porter r 999 5;", 9, 2);
    }

    static void promise04_feeOf0To20() {
        PainPorters x = of("porter r 5 0;porter s 5 20;");
        due("the least", x.porter(0, 1), 0);
        due("the most", x.porter(1, 1), 20);
        badTown("porter r 5 21;", 11, 2);
        badTown("porter r 5 999;", 11, 2);
    }

    static void promise04_weightOf1To9() {
        PainPorters x = of(BASE + "pain p m s 1 5;pain q m s 9 5;");
        due("the least", x.pain(0, 2), 1);
        due("the most", x.pain(1, 2), 9);
        badTown(BASE + "pain p m s 0 5;", BASE.length() + 11, 2);
        badTown(BASE + "pain p m s 10 5;", BASE.length() + 11, 2);
    }

    static void promise04_hoursOf1To200() {
        PainPorters x = of(BASE + "pain p m s 5 1;pain q m s 5 200;");
        due("the least", x.pain(0, 3), 1);
        due("the most", x.pain(1, 3), 200);
        badTown(BASE + "pain p m s 5 0;", BASE.length() + 13, 2);
        badTown(BASE + "pain p m s 5 201;", BASE.length() + 13, 2);
    }

    static void promise04_harmOf0To12() {
        due("the least", of("harm 0;").count(4), 0);
        due("the most", of("harm 12;").count(4), 12);
        badTown("harm 13;", 5, 2);
        badTown("harm 999;", 5, 2);
    }

    static void promise04_harmOnceAnd1Without() {
        due("without", of("sort s;").count(4), 1);
        badTown("harm 2;harm 2;", 7, 3);
        badTown("harm 0;sort s;harm 1;", 14, 3);
        PainPorters x = of("harm 9;");
        town(x, "sort s;");
        due("without, behind another TOWN", x.count(4), 1);
        due("told in each TOWN", town(x, "harm 3;"), 1);
    }

    static void promise04_fixedIsOneSortsAlone() {
        PainPorters x = of("sort a;sort b fixed;sort c;");
        due("a", x.sort(0, 0), 0);
        due("b", x.sort(1, 0), 1);
        due("c", x.sort(2, 0), 0);
        badTown("sort a fixed fixed;", 13, 1);
        badTown("sort fixed;", 5, 1);
    }

    static void promise04_talksOfTwoUnlike() {
        badTown("sort a;sort b;talks a a;", 22, 3);
        badTown("sort a;sort b;talks b b;", 22, 3);
    }

    static void promise04_talksEachTwoOnceInWhicheverOrder() {
        badTown("sort a;sort b;talks a b;talks a b;", 32, 3);
        badTown("sort a;sort b;talks a b;talks b a;", 32, 3);
        goodTown("sort a;sort b;sort c;talks a b;talks c a;talks b c;", 6);
    }

    static void promise04_barsEachTwoOnce() {
        String two = "sort a;sort b;porter r 1 1;porter q 1 1;";
        badTown(two + "bars r a;bars r a;", two.length() + 16, 3);
        goodTown(two + "bars r a;bars r b;bars q a;bars q b;", 8);
    }

    static void promise04_aNameIsNoneOfTheWordsToldInTownLogSentence() {
        for (String word : RESERVED) {
            badTown("sort " + word + ";", 5, 1);
            badTown("person " + word + " 1;", 7, 1);
            badTown("porter " + word + " 1 1;", 7, 1);
            badTown(BASE + "pain " + word + " m s 1 1;", BASE.length() + 5, 1);
        }
        goodTown("sort sorts;sort sor;sort fix;sort hours;sort an;sort i;person nots 1;person overs 1;"
                + "person notover 1;", 9);
    }

    static void promise04_aNameIsToldOnceWhateverItIsOf() {
        String[] tells = {"sort z;", "person z 1;", "porter z 1 1;", "pain z m s 1 1;"};
        int[] places = {5, 7, 7, 5};
        for (String first : tells) {
            for (int second = 0; second < 4; second++) {
                String ahead = BASE + first;
                badTown(ahead + tells[second], ahead.length() + places[second], 3);
            }
        }
    }

    static void promise04_aNameIsToldAheadOfItsUse() {
        badTown("talks a b;sort a;sort b;", 6, 3);
        badTown("sort a;talks a b;sort b;", 15, 3);
        badTown("sort a;bars r a;porter r 1 1;", 12, 3);
        badTown("sort s;pain p m s 1 1;person m 1;", 14, 3);
        badTown("person m 1;pain p m s 1 1;sort s;", 20, 3);
        badTown(BASE + "pain p p s 1 1;", BASE.length() + 7, 3);
    }

    static void promise04_aNameOfAnotherSort() {
        badTown(BASE + "talks m s;", BASE.length() + 6, 3);
        badTown(BASE + "talks s r;", BASE.length() + 8, 3);
        badTown(BASE + "bars s s;", BASE.length() + 5, 3);
        badTown(BASE + "bars r m;", BASE.length() + 7, 3);
        badTown(BASE + "pain p r s 1 1;", BASE.length() + 7, 3);
        badTown(BASE + "pain p m r 1 1;", BASE.length() + 9, 3);
    }

    static void promise04_talksAndBarsMayComeBehindThePains() {
        PainPorters x = of("sort a;sort b;person m 9;porter r 9 0;porter q 9 0;pain c m a 1 9;pain d m b 1 9;"
                + "talks b a;bars q a;");
        x.fetch(0, 0);
        due("it talks", x.can(0, 1), 3);
        due("it is barred", x.can(1, 0), 2);
    }

    static void promise04_numberedFrom0Each() {
        PainPorters x = of("person m 5;sort a;person n 6;sort b;porter r 7 8;pain p n b 1 2;porter q 9 3;"
                + "pain o m a 3 4;");
        due("the first PERSON", x.person(0, 0), 5);
        due("the second PERSON", x.person(1, 0), 6);
        due("the first PORTER", x.porter(0, 0), 7);
        due("the second PORTER", x.porter(1, 0), 9);
        due("whose the first PAIN is", x.pain(0, 0), 1);
        due("the SORT of the first PAIN", x.pain(0, 1), 1);
        due("whose the second PAIN is", x.pain(1, 0), 0);
        due("the SORT of the second PAIN", x.pain(1, 1), 0);
    }

    // ---- Promise 5: fault

    static void promise05_0AheadOfAny() {
        due("fault()", new PainPorters().fault(), 0);
    }

    static void promise05_ofTheLatestTownLogOrSentence() {
        PainPorters x = new PainPorters();
        town(x, "sort sort;");
        due("of a TOWN", x.fault(), 1);
        log(x, "hour 0;", 0);
        due("of a LOG", x.fault(), 2);
        sentence(x, "is s");
        due("of a SENTENCE", x.fault(), 3);
        town(x, "sort s;");
        due("a good TOWN", x.fault(), 0);
        log(x, "hour 61;", 1);
        due("of a LOG that would be lived", x.fault(), 2);
        log(x, "hour 1;", 0);
        due("a good LOG", x.fault(), 0);
        sentence(x, "is");
        due("of a SENTENCE", x.fault(), 1);
        sentence(x, "is s");
        due("a good SENTENCE", x.fault(), 0);
    }

    static void promise05_aWrongLogHasNoFault() {
        PainPorters x = of(SMALL);
        town(x, "x");
        due("WRONG", log(x, "pim drops tooth;", 0), 0);
        due("fault()", x.fault(), 0);
    }

    static void promise05_aLogOfMinus1000LeavesIt() {
        PainPorters x = new PainPorters();
        town(x, "harm 13;");
        type(x, "hour 1;");
        due("log(2)", x.log(2), -1000);
        due("fault()", x.fault(), 2);
    }

    static void promise05_otherCallsLeaveIt() {
        PainPorters x = of(SMALL);
        x.image(0);
        town(x, "harm 13;");
        limps(x, 7, 7);
        x.hours(1);
        x.undo();
        x.restore(0);
        x.free(1, 1);
        x.drawn(1, 1);
        due("fault()", x.fault(), 2);
    }

    static void promise05_1WhatIsNoToken() {
        badTown("sort A;", 5, 1);
        badTown("Sort a;", 0, 1);
        badTown("sort a.", 6, 1);
        badTown("sort a,", 6, 1);
        badTown("sort\ta;", 4, 1);
        badTown("sort a;\r", 7, 1);
        badTown("sort a;\0", 7, 1);
        badTown("sort a" + (char) 127 + ";", 6, 1);
        badTown("harm -1;", 5, 1);
        badTown("sort `;", 5, 1);
        badTown("sort {;", 5, 1);
        badTown("harm /;", 5, 1);
        badTown("harm :;", 5, 1);
    }

    static void promise05_1AWordOfEightLetters() {
        goodTown("sort abcdefg;sort z;", 2);
        badTown("sort abcdefgh;", 5, 1);
        badTown("sort abcdefghabcdefghabcdefghabcdefgh;", 5, 1);
        // Longer words that begin or end as a word that may come.
        badTown("personsx m 1;", 0, 1);
        badTown("sort a;sort abcdefga;", 12, 1);
    }

    static void promise05_wordsOfLikeLettersAreUnlike() {
        goodTown("sort a;sort aa;sort aaa;sort b;sort bb;sort ab;", 6);
        goodTown("person z 1;person zz 1;person zzzzzzz 1;person zzzzzzy 1;person yzzzzzz 1;", 5);
        goodTown("porter ab 1 1;porter ba 1 1;porter abc 1 1;porter bc 1 1;porter c 1 1;", 5);
        badTown("sort abcdefg;sort abcdefg;", 18, 3);
    }

    static void promise05_1ANumberOfFourDigits() {
        badTown("harm 0012;", 5, 1);
        badTown("harm 0000;", 5, 1);
        badTown("harm 4294967297;", 5, 1);
        goodTown("harm 012;", 1);
    }

    static void promise05_1AWordAndANumberGoOnAsLongAsLettersAndDigitsDo() {
        badTown("sort a1;", 5, 1);
        badTown("sort 1a;", 5, 1);
        badTown("person m1;", 7, 1);
        badTown("person m 1x;", 9, 1);
        badTown("harm1;", 0, 1);
        badTown("harm 1harm;", 5, 1);
        badTown("sorta;", 0, 1);
    }

    static void promise05_blanksBetweenTokensOrNot() {
        goodTown("\nsort\n\na  fixed \n;harm\n1 ; ", 2);
        goodTown("sort a;sort b;", 2);
        badTown("sort a;sortb;", 7, 1);
    }

    static void promise05_1ATokenThatCantCome() {
        badTown(";", 0, 1);
        badTown("sort a;;", 7, 1);
        badTown("5;", 0, 1);
        badTown("a;", 0, 1);
        badTown("(", 0, 1);
        badTown("fixed;", 0, 1);
        badTown("home a;", 0, 1);
        badTown("sort;", 4, 1);
        badTown("sort 5;", 5, 1);
        badTown("sort a b;", 7, 1);
        badTown("sort a = b;", 7, 1);
        badTown("sort a harm 1;", 7, 1);
        badTown("person m;", 8, 1);
        badTown("person m n;", 9, 1);
        badTown("person m 1 2;", 11, 1);
        badTown("porter r 1;", 10, 1);
        badTown("porter r 1 1 1;", 13, 1);
        badTown(BASE + "talks s;", BASE.length() + 7, 1);
        badTown(BASE + "talks s 1;", BASE.length() + 8, 1);
        badTown(BASE + "sort t;talks s t t;", BASE.length() + 17, 1);
        badTown(BASE + "bars r;", BASE.length() + 6, 1);
        badTown(BASE + "bars r s s;", BASE.length() + 9, 1);
        badTown(BASE + "pain p m s 1;", BASE.length() + 12, 1);
        badTown(BASE + "pain p m s 1 1 1;", BASE.length() + 15, 1);
        badTown(BASE + "pain p m 1 1;", BASE.length() + 9, 1);
        badTown("harm;", 4, 1);
        badTown("harm x;", 5, 1);
        badTown("harm 1 1;", 7, 1);
    }

    static void promise05_1AReservedWordWhereATellOfANameIsDue() {
        badTown(BASE + "talks s sort;", BASE.length() + 8, 1);
        badTown(BASE + "bars harm s;", BASE.length() + 5, 1);
        badTown(BASE + "pain p over s 1 1;", BASE.length() + 7, 1);
    }

    static void promise05_1TheEndIsAtHowManyBytesThereAre() {
        badTown("sort", 4, 1);
        badTown("sort a", 6, 1);
        badTown("sort a \n ", 9, 1);
        badTown("sort a fixed", 12, 1);
        badTown("person m", 8, 1);
        badTown("porter r 1 1", 12, 1);
        badTown(wide(900, "sort a"), 900, 1);
    }

    static void promise05_1TheMostBytesToldIfThereAreMore() {
        badTown("sort a" + times(895, " "), 900, 1);
        badTown(wide(900, "harm 1;") + "!", 900, 1);
        badTown(wide(900, "harm 1;") + "sort", 900, 1);
        badTown(times(900, " ") + "!", 900, 1);
    }

    static void promise05_1AnotherFaultIsAheadOfTheMostBytes() {
        badTown("!" + times(920, " "), 0, 1);
        badTown(wide(900, "harm 13;") + " ", 897, 2);
        badTown(wide(900, ";") + " ", 899, 1);
        badTown(wide(900, "!") + "!", 899, 1);
    }

    static void promise05_1TokensThatBeginAheadOfTheMostBytesAreReadWhole() {
        // A WORD from 895 to 901: it is whole, and the most bytes are the FAULT.
        badTown(times(890, " ") + "sort abcdefg;", 900, 1);
        badTown(times(899, " ") + "sort a;", 900, 1);
        badTown(times(899, " ") + "sorts a;", 899, 1);
        badTown(times(894, " ") + "sort abcdefgh;", 899, 1);
        badTown(times(894, " ") + "harm 13;", 899, 2);
        badTown(times(894, " ") + "harm 12;", 900, 1);
        badTown(times(894, " ") + "harm 0013;", 899, 1);
        badTown(times(886, " ") + "sort ab;sort ab;", 899, 3);
        badTown(times(887, " ") + "sort a;sort ab;", 900, 1);
        // One that begins at the most bytes is not read.
        badTown(times(895, " ") + "harm 13;", 900, 1);
        badTown(times(900, " ") + "abcdefgh", 900, 1);
    }

    static void promise05_2ANumberNotAsTold() {
        badTown("porter r 0 99;", 9, 2);
        badTown("porter r 1 99;", 11, 2);
        badTown("harm 13", 5, 2);
        badTown("harm 13!", 5, 2);
    }

    static void promise05_3AtTheSecond() {
        badTown("sort ab;sort ab;", 13, 3);
        badTown("sort ab;talks ab ab;", 17, 3);
        badTown("sort ab;sort cd;talks ab cd;talks cd ab;", 37, 3);
    }

    static void promise05_3HarmToldAgainIsAtHarm() {
        badTown("harm 1; harm 13;", 8, 3);
        badTown("harm 1;harm", 7, 3);
    }

    static void promise05_4IsAtTheLinesFirstWordWhateverComesBehindIt() {
        badTown(SORTS6 + "sort", SORTS6.length(), 4);
        badTown(SORTS6 + "sort a;", SORTS6.length(), 4);
        badTown(SORTS6 + TALKS8 + "talks a b;", (SORTS6 + TALKS8).length(), 4);
        badTown(PERSONS5 + "person !", PERSONS5.length(), 4);
        badTown(PORTERS5 + "porter l 99 99;", PORTERS5.length(), 4);
    }

    static void promise05_theFirstAlongTheText() {
        badTown("porter r 41 21;harm 13;!", 9, 2);
        badTown("sort s;sort s;!", 12, 3);
        badTown("sort s! sort s;", 6, 1);
    }

    static void promise05_ofOneTokenTheLeast() {
        // The 41st LINE's first WORD: 1 if it can't come, 3 if it is not told, 4 if nothing else.
        String forty = times(40, "hour 1;");
        badLog(forty + "home;", 280, 1);
        badLog(forty + ";", 280, 1);
        badLog(forty + "zed home;", 280, 3);
        badLog(forty + "ann home;", 280, 3);
        badLog(forty + "tooth;", 280, 4);
        String twenty = times(20, "over or ");
        badSentence(twenty + "or", 160, 1);
        badSentence(twenty + "tooth", 160, 1);
        badSentence(twenty + "of zed", 160, 4);
    }

    public static void main(String[] args) throws IllegalAccessException {
        runAll(Edge01To05Test.class, 1, 5);
    }
}
