/**
 * The boundary cases of the document's 'Terms' with the sections 2 and 3: a case for each sentence (or each part of one)
 * that names such a boundary. The words of the document stand above each.
 */
public final class BoundaryTermsTest extends Cases {
    private static final String EIGHTEEN_CLAUSES = "n1;".repeat(18);

    public static void main(String[] args) throws IllegalAccessException {
        new BoundaryTermsTest().runAll();
    }

    /** "FARMS 0 to 9" */
    void farmsAre0To9() {
        PeerCircle circle = new PeerCircle();
        for (int f = 0; f < 10; f++) {
            due("not there yet: look(" + f + ", 0)", circle.look(f, 0), NONE);
            due("farm " + f, circle.farm(7, 0), f);
            due("look(" + f + ", 0)", circle.look(f, 0), 7);
        }
        dueNone(circle, "an eleventh", () -> circle.farm(7, 0));
        for (int f : NO_FARM_OF_TEN) {
            due("look(" + f + ", 0)", circle.look(f, 0), NONE);
        }
    }

    /** "each of a FAMILY (0 to 7)" */
    void familyIs0To7() {
        PeerCircle circle = new PeerCircle();
        due("family 0", circle.farm(0, 0), 0);
        due("family 7", circle.farm(7, 0), 1);
        due("look(0, 0)", circle.look(0, 0), 0);
        due("look(1, 0)", circle.look(1, 0), 7);
        for (int family : new int[] {-1, 8, 9, 32, 256, MOST, LEAST}) {
            dueNone(circle, "family " + family, () -> circle.farm(family, 0));
        }
    }

    /** "and a GROUP (0 to 3)" */
    void groupIs0To3() {
        PeerCircle circle = new PeerCircle();
        due("group 0", circle.farm(0, 0), 0);
        due("group 3", circle.farm(0, 3), 1);
        due("look(0, 1)", circle.look(0, 1), 0);
        due("look(1, 1)", circle.look(1, 1), 3);
        for (int group : new int[] {-1, 4, 5, 32, 256, MOST, LEAST}) {
            dueNone(circle, "group " + group, () -> circle.farm(0, group));
        }
    }

    /** "One BUYS from another one, as told (till it is told that it does not)." */
    void buysTillToldThatItDoesNot() {
        PeerCircle circle = Circles.of(3);
        circle.buys(0, 1, true);
        for (int year = 0; year < 5; year++) {
            due("year " + year + ": barred(0, 1)", circle.barred(0, 1), 1);
            due("year " + year + ": barred(1, 0)", circle.barred(1, 0), 1);
            Circles.layAndYear(circle);
        }
        due("told that it does not", circle.buys(0, 1, false), true);
        due("barred(0, 1) then", circle.barred(0, 1), 0);
        due("barred(1, 0) then", circle.barred(1, 0), 0);
    }

    /** "One BUYS from another one": the first and the last number of a farm, both ways, and no other pair. */
    void buysAmongFirstAndLast() {
        PeerCircle circle = Circles.of(10);
        due("buys(0, 9)", circle.buys(0, 9, true), true);
        due("buys(9, 0)", circle.buys(9, 0, true), true);
        due("buys(0, 9) no more", circle.buys(0, 9, false), true);
        due("the other way still", circle.barred(0, 9), 1);
        due("buys(9, 0) no more", circle.buys(9, 0, false), true);
        due("none", circle.barred(0, 9), 0);
        due("another pair", circle.barred(0, 7), 0);
    }

    /** "It is a YEAR (0 at first" */
    void yearIs0AtFirst() {
        PeerCircle circle = new PeerCircle();
        due("count(1)", circle.count(1), 0);
        due("the first to go by", Circles.layAndYear(circle), 1);
        due("count(1) then", circle.count(1), 1);
    }

    /** "to 500)": no run of 512 calls comes so far, but the document names it. */
    void yearIsTo500() {
        PeerCircle circle = new PeerCircle();
        for (int year = 1; year <= 500; year++) {
            due("year " + year, Circles.layAndYear(circle), year);
        }
        circle.lay();
        dueNone(circle, "above 500", circle::year);
        due("count(1)", circle.count(1), 500);
    }

    /** "CLAUSES with a ; (59) between two" */
    void clausesHaveASemicolonBetweenTwo() {
        dueRules("n1", 0);
        dueRules("n1;v1", 0);
        dueRules("n1;v1;w1", 0);
        dueRules("n1v1", 502);
        dueRules(";n1", 100);
        dueRules("n1;", 103);
        dueRules("n1;v1;", 106);
        dueRules("n1;;v1", 103);
        dueRules(";", 100);
        PeerCircle circle = new PeerCircle();
        due("59 is the sign", circle.feed('n' << 24 | '2' << 16 | 59 << 8 | 'v', '4' << 24, 0, 0, 0), 20);
        due("rules(5)", circle.rules(5), 0);
        due("n", circle.count(10), 2);
        due("v", circle.count(11), 4);
    }

    /** "no blanks" */
    void clausesHaveNoBlanks() {
        dueRules(" ", 100);
        dueRules(" n1", 100);
        dueRules("n 1", 201);
        dueRules("n1 ", 502);
        dueRules("n1 ;v1", 502);
        dueRules("n1; v1", 103);
        dueRules("w1 2", 502);
    }

    /** "each a letter and a number of one to four digits" */
    void numberHasOneToFourDigits() {
        dueRules("w", 201);
        String[] texts = {"w7", "w65", "w321", "w4321", "w0007", "w01", "w001"};
        int[] numbers = {7, 65, 321, 4321, 7, 1, 1};
        for (int i = 0; i < texts.length; i++) {
            PeerCircle circle = new PeerCircle();
            due(texts[i], Checks.rules(circle, texts[i]), 0);
            due("w of " + texts[i], circle.count(12), numbers[i]);
        }
        dueRules("w54321", 305);
        dueRules("w00007", 305);
    }

    /** "n VISITS that a FARM should have (1 to 5; 3 at first)" */
    void ruleNIs1To5() {
        dueRange('n', 10, 1, 5, 3);
        dueRules("n0", 401);
        dueRules("n6", 401);
    }

    /** "v VISITS that a FARM makes at most (0 to 9; 3)" */
    void ruleVIs0To9() {
        dueRange('v', 11, 0, 9, 3);
        dueRules("v10", 401);
    }

    /** "w .. what BREACHES must weigh for a warning (1 to 9999; 3" */
    void ruleWIs1To9999() {
        dueRange('w', 12, 1, 9999, 3);
        dueRules("w0", 401);
        dueRules("w10000", 305);
    }

    /** "x .. for being OUT at once (1 to 9999; .. 9)" */
    void ruleXIs1To9999() {
        dueRange('x', 13, 1, 9999, 9);
        dueRules("x0", 401);
        dueRules("x10000", 305);
    }

    /** "b YEARS that one stays OUT (1 to 20; 2)" */
    void ruleBIs1To20() {
        dueRange('b', 14, 1, 20, 2);
        dueRules("b0", 401);
        dueRules("b21", 401);
    }

    /** "g hundredths of a GROUP (0 to 100; 60)" */
    void ruleGIs0To100() {
        dueRange('g', 15, 0, 100, 60);
        dueRules("g101", 401);
    }

    /** Every number of one to four digits that a letter may or may not have. */
    private void dueRange(char letter, int what, int least, int most, int first) {
        due(letter + " at first", new PeerCircle().count(what), first);
        PeerCircle circle = new PeerCircle();
        for (int number = 0; number <= 9999; number++) {
            boolean may = number >= least && number <= most;
            int before = circle.count(what);
            due(letter + " " + number, Checks.rules(circle, letter + String.valueOf(number)), may ? 0 : 401);
            due(letter + " then", circle.count(what), may ? number : before);
        }
    }

    /** "What no CLAUSE tells is as at first": not as it was before. */
    void whatNoClauseTellsIsAsAtFirst() {
        int[] first = {3, 3, 3, 9, 2, 60};
        for (int told = 0; told < 6; told++) {
            PeerCircle circle = new PeerCircle();
            Checks.rules(circle, "n1;v1;w1;x1;b1;g1");
            due("all", circle.count(10 + told), 1);
            due("one", Checks.rules(circle, "nvwxbg".charAt(told) + "4"), 0);
            for (int kind = 0; kind < 6; kind++) {
                due("count(" + (10 + kind) + ") by " + told, circle.count(10 + kind), kind == told ? 4 : first[kind]);
            }
        }
    }

    /** "the later one of a letter counts" */
    void laterClauseOfALetterCounts() {
        String[] texts = {"n1;n5", "n5;n1", "n1;v2;n4", "n4;n4;n2", "n5;n1;n3;n2"};
        int[] numbers = {5, 1, 4, 2, 2};
        for (int i = 0; i < texts.length; i++) {
            PeerCircle circle = new PeerCircle();
            due(texts[i], Checks.rules(circle, texts[i]), 0);
            due("n of " + texts[i], circle.count(10), numbers[i]);
        }
        dueRules("n9;n1", 401);
    }

    /** "FAULTS, the first from the left" */
    void firstFaultFromTheLeft() {
        dueRules("q;n;n0;n1x", 100);
        dueRules("n;q;n0", 201);
        dueRules("n0;q", 401);
        dueRules("n1x;q;n0", 502);
        dueRules("w12345;q", 305);
        dueRules("n1;v;q", 204);
        dueRules("n1;v10;n", 404);
    }

    /** "1 no such letter there": every byte that can stand there. */
    void fault1NoSuchLetter() {
        for (int sign = 0; sign < 256; sign++) {
            int want = "nvwxbg".indexOf(sign) >= 0 ? 0 : 100;
            due("sign " + sign, Checks.rules(new PeerCircle(), (char) sign + "1"), want);
            due("sign " + sign + " behind a clause", Checks.rules(new PeerCircle(), "n1;" + (char) sign + "1"), want == 0 ? 0 : 103);
        }
    }

    /** "(the end, too)" */
    void fault1TheEnd() {
        dueRules("", 100);
        dueRules("n1;", 103);
        dueRules("w9999;", 106);
        PeerCircle circle = new PeerCircle();
        Checks.feed(circle, "n1;v1");
        due("what stands behind the end is not read", circle.rules(3), 103);
        Checks.feed(circle, "n1;v1");
        due("rules(0) of twenty bytes", circle.rules(0), 100);
    }

    /** "2 no digit there": every byte that can stand there, and the end. */
    void fault2NoDigit() {
        for (int sign = 0; sign < 256; sign++) {
            boolean isDigit = sign >= 48 && sign <= 57;
            int want = isDigit ? sign == 48 ? 401 : 0 : 201;
            due("sign " + sign, Checks.rules(new PeerCircle(), "w" + (char) sign), want);
        }
        dueRules("w", 201);
        dueRules("n1;w", 204);
        dueRules("w;n1", 201);
        PeerCircle circle = new PeerCircle();
        Checks.feed(circle, "w7");
        due("the digit stands behind the end", circle.rules(1), 201);
    }

    /** "3 a fifth digit, at it" */
    void fault3AFifthDigit() {
        dueRules("w1234", 0);
        dueRules("w12345", 305);
        dueRules("w123456", 305);
        dueRules("n1;w12345", 308);
        dueRules("w1234;x12345;n1", 311);
        PeerCircle circle = new PeerCircle();
        Checks.feed(circle, "w12345");
        due("the fifth stands behind the end", circle.rules(5), 0);
        due("w", circle.count(12), 1234);
    }

    /** "4 a number that it can't be, at its first digit" */
    void fault4AtItsFirstDigit() {
        dueRules("n6", 401);
        dueRules("n10", 401);
        dueRules("n9999", 401);
        dueRules("n0000", 401);
        dueRules("n1;g101", 404);
        dueRules("n1;v9;b0021", 407);
    }

    /** "(asked when its digits end)": behind fault 3 and before fault 5. */
    void fault4AskedWhenItsDigitsEnd() {
        dueRules("n99999", 305);
        dueRules("n00000", 305);
        dueRules("b99999", 305);
        dueRules("n6;", 401);
        dueRules("n6x", 401);
        dueRules("n0 ", 401);
        dueRules("n6;q", 401);
        dueRules("n0003", 0);
    }

    /** "5 something else than ; or the end behind a CLAUSE": every byte that can stand there. */
    void fault5BehindAClause() {
        for (int sign = 0; sign < 256; sign++) {
            boolean isDigit = sign >= 48 && sign <= 57;
            int want = isDigit ? 305 : sign == 59 ? 0 : 505;
            due("sign " + sign, Checks.rules(new PeerCircle(), "w1234" + (char) sign + "n1"), want);
        }
        dueRules("n1", 0);
        dueRules("n1;v1x", 505);
    }

    /** Each fault at the last place that a text can have, of sixty bytes. */
    void faultsAtTheLastPlace() {
        dueRules(EIGHTEEN_CLAUSES + "w1;w12", 0);
        dueRules(EIGHTEEN_CLAUSES + "n1;n1;", 160);
        dueRules(EIGHTEEN_CLAUSES + "w123;q", 159);
        dueRules(EIGHTEEN_CLAUSES + "w123;n", 260);
        dueRules(EIGHTEEN_CLAUSES + "w12;nx", 259);
        dueRules(EIGHTEEN_CLAUSES + "w12345", 359);
        dueRules(EIGHTEEN_CLAUSES + "w12;n6", 459);
        dueRules(EIGHTEEN_CLAUSES + "n1;n1x", 559);
    }

    /** "BARRED from a FARM are itself" */
    void barredIsItself() {
        PeerCircle circle = Circles.of(10);
        for (int f = 0; f < 10; f++) {
            due("barred(" + f + ", " + f + ")", circle.barred(f, f), 1);
        }
    }

    /** "all of its FAMILY" */
    void barredAreAllOfItsFamily() {
        PeerCircle circle = new PeerCircle();
        int[] families = {0, 7, 0, 7, 3, 0, 7, 3, 6, 1};
        for (int family : families) {
            circle.farm(family, family % 4);
        }
        for (int v = 0; v < 10; v++) {
            for (int f = 0; f < 10; f++) {
                due("barred(" + v + ", " + f + ")", circle.barred(v, f), families[v] == families[f] ? 1 : 0);
            }
        }
    }

    /** "whom it BUYS from" */
    void barredIsWhomItBuysFrom() {
        PeerCircle circle = Circles.of(3);
        circle.buys(1, 2, true);
        due("barred(2, 1)", circle.barred(2, 1), 1);
        due("barred(0, 1)", circle.barred(0, 1), 0);
        due("barred(2, 0)", circle.barred(2, 0), 0);
    }

    /** "and who BUYS from it" */
    void barredIsWhoBuysFromIt() {
        PeerCircle circle = Circles.of(3);
        circle.buys(1, 2, true);
        due("barred(1, 2)", circle.barred(1, 2), 1);
        due("barred(0, 2)", circle.barred(0, 2), 0);
        due("barred(1, 0)", circle.barred(1, 0), 0);
    }

    /** "and who visited it the YEAR before": not who visits it now, nor who did two years ago, nor whom it visited. */
    void barredIsWhoVisitedTheYearBefore() {
        PeerCircle circle = Circles.of(3);
        Checks.rules(circle, "n2;v1");
        circle.lay();
        due("2 visits 0 now", circle.barred(2, 0), 0);
        circle.year();
        due("2 visited 0", circle.barred(2, 0), 1);
        due("0 did not visit 2", circle.barred(0, 2), 0);
        circle.lay();
        due("laid again: still", circle.barred(2, 0), 1);
        circle.year();
        due("two years ago", circle.barred(2, 0), 0);
    }

    /** "who visited it the YEAR before": one that was barred for two reasons still is when one of them ends. */
    void barredForTwoReasons() {
        PeerCircle circle = Circles.laid(4);
        circle.year();
        circle.buys(0, 1, true);
        circle.buys(0, 1, false);
        due("by the visit still", circle.barred(0, 1), 1);
        circle.buys(0, 1, true);
        Circles.layAndYear(circle);
        due("by buying still", circle.barred(0, 1), 1);
    }

    /** "THE VISITS are laid once a YEAR" */
    void laidOnceAYear() {
        PeerCircle circle = Circles.of(4);
        for (int year = 0; year < 4; year++) {
            due("laid in " + year, circle.lay(), year % 2 == 0 ? 12 : 0);
            dueNone(circle, "again in " + year, circle::lay);
            circle.year();
        }
    }

    /** "by what is told then": what is told behind it counts only in the next year. */
    void laidByWhatIsToldThen() {
        PeerCircle circle = Circles.laid(4);
        Checks.rules(circle, "n1;v1");
        circle.buys(0, 1, true);
        due("a farm more", circle.farm(7, 0), 4);
        due("the visits stay", circle.count(3), 12);
        due("1 visits 0 still", circle.visitor(0, 0), 1);
        due("and tells", circle.tells(1, 0, 0, true), true);
        due("the new one is not visited", circle.look(4, 8), 0);
        circle.year();
        due("next year only the new one goes round", circle.lay(), 2);
        due("visitor(0, 0)", circle.visitor(0, 0), 4);
        due("visitor(4, 0)", circle.visitor(4, 0), 0);
    }

    /** "each FARM has at most n VISITORS": n from 1 to 5, and fewer farms than that. */
    void atMostNVisitors() {
        for (int n = 1; n <= 5; n++) {
            PeerCircle circle = Circles.of(8);
            Checks.rules(circle, "v9;n" + n);
            due("n " + n, circle.lay(), 8 * n);
            for (int f = 0; f < 8; f++) {
                due("visitors of " + f, circle.look(f, 8), n);
                due("behind the last", circle.visitor(f, n), NONE);
            }
            PeerCircle three = Circles.of(3);
            Checks.rules(three, "v9;n" + n);
            due("three farms, n " + n, three.lay(), 3 * Math.min(n, 2));
        }
    }

    /** "VISITORS that are not BARRED from it" */
    void noVisitorIsBarred() {
        PeerCircle kin = new PeerCircle();
        for (int f = 0; f < 10; f++) {
            kin.farm(7, 0);
        }
        due("all barred", kin.lay(), 0);
        PeerCircle circle = Circles.of(2);
        circle.buys(1, 0, true);
        due("both barred", circle.lay(), 0);
        circle.year();
        circle.buys(1, 0, false);
        due("none barred", circle.lay(), 2);
        circle.year();
        due("both were there last year", circle.lay(), 0);
    }

    /** "each FARM makes at most v VISITS": v from 0 to 9. */
    void atMostVVisits() {
        for (int v = 0; v <= 9; v++) {
            PeerCircle circle = Circles.oneAndNineKin();
            Checks.rules(circle, "n5;v" + v);
            due("v " + v, circle.lay(), v == 0 ? 0 : v + 5);
            due("visits by 0", circle.look(0, 9), v);
            due("its last farm but one", circle.look(8, 8), v >= 8 ? 1 : 0);
            due("its last farm", circle.look(9, 8), v >= 9 ? 1 : 0);
        }
    }

    /** "of all ways that with most VISITS in all": before the least row. */
    void mostVisitsComeFirst() {
        PeerCircle circle = Circles.of(4);
        Checks.rules(circle, "n1;v1");
        circle.buys(2, 0, true);
        circle.buys(2, 3, true);
        due("only 1 can visit 2, so 1 does not visit 0", circle.lay(), 4);
        int[] visitors = {3, 2, 1, 0};
        for (int f = 0; f < 4; f++) {
            due("visitor(" + f + ", 0)", circle.visitor(f, 0), visitors[f]);
        }
    }

    /** "of like ones the least row: FARM by FARM its VISITORS by their numbers" */
    void leastRowOfLikeOnes() {
        PeerCircle circle = Circles.of(8);
        Checks.rules(circle, "n1;v1");
        due("eight", circle.lay(), 8);
        int[] visitors = {1, 0, 3, 2, 5, 4, 7, 6};
        for (int f = 0; f < 8; f++) {
            due("visitor(" + f + ", 0)", circle.visitor(f, 0), visitors[f]);
        }
        PeerCircle odd = Circles.of(3);
        Checks.rules(odd, "n1;v1");
        due("three", odd.lay(), 3);
        due("odd: visitor(0, 0)", odd.visitor(0, 0), 1);
        due("odd: visitor(1, 0)", odd.visitor(1, 0), 2);
        due("odd: visitor(2, 0)", odd.visitor(2, 0), 0);
    }

    /** "10 for each that it lacks": a lack is more than any number, 9 too, so it comes as late as can be. */
    void aLackIsTenInTheRow() {
        PeerCircle circle = Circles.oneAndNineKin();
        Checks.rules(circle, "n5;v1");
        due("lay()", circle.lay(), 6);
        due("0 goes to the first of the others", circle.visitor(1, 0), 0);
        due("the second lacks", circle.visitor(2, 0), NONE);
        PeerCircle nineFirst = new PeerCircle();
        for (int f = 0; f < 9; f++) {
            nineFirst.farm(1, 0);
        }
        nineFirst.farm(0, 0);
        Checks.rules(nineFirst, "n1;v1");
        due("9 to one, and one to 9", nineFirst.lay(), 2);
        due("9 at farm 0 is less than a lack there", nineFirst.visitor(0, 0), 9);
        due("who goes to 9", nineFirst.visitor(9, 0), 0);
        PeerCircle three = Circles.of(3);
        Checks.rules(three, "n2;v1");
        due("three visits", three.lay(), 3);
        due("farm 0 has both", three.look(0, 8), 2);
        due("farm 1 has one", three.look(1, 8), 1);
        due("farm 2 lacks both", three.look(2, 8), 0);
    }

    /** "POINTS 0 to 7 are looked at" */
    void pointsAre0To7() {
        PeerCircle circle = Circles.laid(4);
        for (int point = 0; point < 8; point++) {
            due("point " + point, circle.tells(1, 0, point, true), true);
            due("point " + point + " again", circle.tells(2, 0, point, true), true);
            due("breaches", circle.breaches(0), (2 << point) - 1);
        }
        for (int point : new int[] {-1, 8, 9, 31, 32, 40, 64, MOST, LEAST}) {
            dueFalse(circle, "tells point " + point, () -> circle.tells(1, 0, point, false));
            dueFalse(circle, "weight of point " + point, () -> circle.weight(point, 2));
        }
    }

    /** "each of a WEIGHT (1 to 99; 1 at first)" */
    void weightIs1To99() {
        PeerCircle circle = new PeerCircle();
        for (int point = 0; point < 8; point++) {
            due("at first", circle.count(20 + point), 1);
            for (int n = 1; n <= 99; n++) {
                due("weight " + n, circle.weight(point, n), true);
                due("count then", circle.count(20 + point), n);
            }
        }
        for (int n : new int[] {0, -1, 100, 101, 257, MOST, LEAST}) {
            dueFalse(circle, "weight " + n, () -> circle.weight(0, n));
        }
    }

    /** "(the latest counts": in both ways; the same told twice by one is not told by two. */
    void theLatestToldCounts() {
        PeerCircle circle = Circles.laid(4);
        circle.tells(1, 0, 3, true);
        circle.tells(1, 0, 3, true);
        due("twice by one", circle.breaches(0), 0);
        circle.tells(2, 0, 3, true);
        due("by two", circle.breaches(0), 8);
        circle.tells(2, 0, 3, false);
        due("taken back", circle.breaches(0), 0);
        circle.tells(2, 0, 3, true);
        due("and told again", circle.breaches(0), 8);
        circle.tells(1, 0, 3, false);
        due("the twice told one is taken back at once", circle.breaches(0), 0);
        due("1 vouches then", circle.vouches(1, 0), 1);
    }

    /** "nothing told: not broken)" */
    void nothingToldIsNotBroken() {
        PeerCircle circle = Circles.laid(4);
        due("breaches", circle.breaches(0), 0);
        due("weighs", circle.weighs(0), 0);
        due("vouches", circle.vouches(1, 0), 1);
        circle.tells(1, 0, 0, false);
        circle.tells(2, 0, 0, false);
        due("told as not broken", circle.breaches(0), 0);
        due("vouches still", circle.vouches(1, 0), 1);
    }

    /** "A BREACH stands if two of the FARM's VISITORS at least tell that it is broken." */
    void aBreachNeedsTwo() {
        PeerCircle circle = Circles.of(8);
        Checks.rules(circle, "n5;v5");
        circle.lay();
        for (int i = 0; i < 5; i++) {
            due("told by " + i, circle.breaches(0), i >= 2 ? 128 : 0);
            circle.tells(circle.visitor(0, i), 0, 7, true);
        }
        due("told by all", circle.breaches(0), 128);
        PeerCircle one = Circles.of(2);
        one.lay();
        one.tells(1, 0, 0, true);
        due("its only visitor", one.breaches(0), 0);
        PeerCircle apart = Circles.laid(4);
        apart.tells(1, 0, 0, true);
        apart.tells(2, 0, 1, true);
        apart.tells(3, 0, 2, true);
        due("each another point", apart.breaches(0), 0);
        PeerCircle elsewhere = Circles.laid(4);
        elsewhere.tells(1, 0, 0, true);
        elsewhere.tells(2, 3, 0, true);
        due("the same point at another farm", elsewhere.breaches(0), 0);
    }

    /** "A VISITOR VOUCHES for the FARM visited if it tells of no POINT that it is broken." */
    void vouchesIfItTellsOfNoPoint() {
        for (int point = 0; point < 8; point++) {
            PeerCircle circle = Circles.laid(4);
            circle.tells(1, 0, point, true);
            due("point " + point, circle.vouches(1, 0), 0);
            due("for another farm", circle.vouches(1, 2), 1);
            due("another visitor", circle.vouches(2, 0), 1);
            circle.tells(1, 0, point, false);
            due("no more", circle.vouches(1, 0), 1);
        }
    }

    /** "A YEAR goes by (only if THE VISITS were laid)" */
    void yearOnlyIfLaid() {
        PeerCircle circle = Circles.resting();
        dueNone(circle, "not laid", circle::year);
        circle.lay();
        due("laid", circle.year(), 3);
        dueNone(circle, "not laid any more", circle::year);
    }

    /** "Of one that is OUT nothing is asked: the YEARS for which it is OUT still are one less." */
    void ofOneOutNothingIsAsked() {
        PeerCircle circle = Circles.of(8);
        Checks.rules(circle, "b3");
        circle.weight(0, 99);
        circle.lay();
        Circles.breach(circle, 0, 0);
        circle.year();
        for (int left = 2; left >= 0; left--) {
            circle.lay();
            Circles.breach(circle, 0, 0);
            due("what would bring it out", circle.weighs(0), 99);
            circle.year();
            due("years out", circle.look(0, 4), left);
            due("step", circle.look(0, 3), 0);
            due("seal", circle.look(0, 2), 0);
        }
        circle.lay();
        Circles.breach(circle, 0, 0);
        circle.year();
        due("asked again", circle.look(0, 4), 3);
    }

    /** "if all BREACHES that stand at it weigh x or more, it is OUT" */
    void outAtXOrMore() {
        for (int weight = 8; weight <= 10; weight++) {
            PeerCircle circle = Circles.laid(4);
            circle.weight(0, weight - 1);
            Circles.breach(circle, 0, 0);
            Circles.breach(circle, 0, 1);
            circle.year();
            due("weight " + weight, circle.look(0, 4), weight >= 9 ? 2 : 0);
            due("step", circle.look(0, 3), weight >= 9 ? 0 : 1);
            due("count(5)", circle.count(5), weight >= 9 ? 1 : 0);
        }
    }

    /** "all BREACHES .. weigh x or more": the most that they can weigh, and x one above it and at it. */
    void outAtTheMostThatBreachesCanWeigh() {
        for (int x = 792; x <= 793; x++) {
            PeerCircle circle = Circles.laid(4);
            for (int point = 0; point < 8; point++) {
                circle.weight(point, 99);
                Circles.breach(circle, 0, point);
            }
            due("eight times 99", circle.weighs(0), 792);
            Checks.rules(circle, "w9999;x" + x);
            circle.year();
            due("x " + x, circle.look(0, 4), x == 792 ? 2 : 0);
            due("no warning", circle.look(0, 3), 0);
        }
    }

    /** "weigh x or more, it is OUT; else, if w or more": x is asked first, even where it is less than w. */
    void xIsAskedBeforeW() {
        PeerCircle circle = Circles.laid(4);
        Checks.rules(circle, "w9;x2");
        circle.weight(0, 2);
        Circles.breach(circle, 0, 0);
        Circles.breach(circle, 1, 1);
        circle.year();
        due("at x, below w", circle.look(0, 4), 2);
        due("below both", circle.look(1, 4), 0);
        PeerCircle alike = Circles.laid(4);
        Checks.rules(alike, "w2;x2");
        alike.weight(0, 2);
        Circles.breach(alike, 0, 0);
        alike.year();
        due("at both: out", alike.look(0, 4), 2);
        due("at both: no step", alike.look(0, 3), 0);
    }

    /** "else, if w or more, its STEP (0 at first) is one more" */
    void stepMoreAtWOrMore() {
        for (int weight = 2; weight <= 4; weight++) {
            PeerCircle circle = Circles.laid(4);
            due("at first", circle.look(0, 3), 0);
            circle.weight(0, weight);
            Circles.breach(circle, 0, 0);
            circle.year();
            due("weight " + weight, circle.look(0, 3), weight >= 3 ? 1 : 0);
            due("a warned one has its seal", circle.look(0, 2), 1);
            due("and is not out", circle.look(0, 4), 0);
        }
        PeerCircle least = Circles.laid(4);
        Checks.rules(least, "w1");
        Circles.breach(least, 0, 0);
        least.year();
        due("w 1, one point of weight 1", least.look(0, 3), 1);
        due("w 1, no breach", least.look(1, 3), 0);
    }

    /** "and at 3 it is OUT" */
    void outAtStep3() {
        PeerCircle circle = Circles.of(8);
        circle.weight(0, 3);
        int[] steps = {1, 2, 0};
        for (int year = 0; year < 3; year++) {
            circle.lay();
            Circles.breach(circle, 0, 0);
            circle.year();
            due("step " + year, circle.look(0, 3), steps[year]);
            due("out " + year, circle.look(0, 4), year == 2 ? 2 : 0);
            due("seal " + year, circle.look(0, 2), year == 2 ? 0 : 1);
        }
    }

    /** "else its STEP is one less (0 at least)" */
    void stepLessDownTo0() {
        PeerCircle circle = Circles.of(8);
        circle.weight(0, 3);
        boolean[] warned = {false, true, true, false, false, false, true};
        int[] steps = {0, 1, 2, 1, 0, 0, 1};
        for (int year = 0; year < warned.length; year++) {
            circle.lay();
            if (warned[year]) {
                Circles.breach(circle, 0, 0);
            }
            circle.year();
            due("step behind year " + year, circle.look(0, 3), steps[year]);
        }
    }

    /** "Who comes OUT so has no SEAL, STEP 0" */
    void whoComesOutHasNoSealAndStep0() {
        PeerCircle circle = Circles.of(8);
        circle.weight(0, 3);
        circle.weight(1, 9);
        for (int year = 0; year < 2; year++) {
            circle.lay();
            Circles.breach(circle, 0, 0);
            circle.year();
        }
        due("step before", circle.look(0, 3), 2);
        due("seal before", circle.look(0, 2), 1);
        circle.lay();
        Circles.breach(circle, 0, 1);
        circle.year();
        due("step", circle.look(0, 3), 0);
        due("seal", circle.look(0, 2), 0);
        due("sells nothing", circle.sell(0, 1), false);
        due("seals of the others", circle.count(4), 7);
    }

    /** "and is OUT for the b YEARS that follow": b 1 and b 20; a later b does not change it. */
    void outForTheYearsThatFollow() {
        for (int b : new int[] {1, 20}) {
            PeerCircle circle = Circles.of(8);
            Checks.rules(circle, "x1;b" + b);
            circle.lay();
            Circles.breach(circle, 0, 0);
            circle.year();
            Checks.rules(circle, "b7");
            for (int left = b; left >= 1; left--) {
                due("b " + b, circle.look(0, 4), left);
                due("count(5)", circle.count(5), 1);
                due("its seal", circle.look(0, 2), 0);
                Circles.layAndYear(circle);
            }
            due("b " + b + " is over", circle.look(0, 4), 0);
            due("count(5) then", circle.count(5), 0);
        }
    }

    /** "Who is not OUT has a SEAL in the next YEAR, if it had two VISITORS at least, else none." */
    void sealNeedsTwoVisitors() {
        for (int n = 1; n <= 5; n++) {
            PeerCircle circle = Circles.of(8);
            Checks.rules(circle, "v5;n" + n);
            circle.lay();
            due("none in this year", circle.count(4), 0);
            circle.year();
            due("n " + n, circle.count(4), n >= 2 ? 8 : 0);
        }
        PeerCircle circle = Circles.of(3);
        Checks.rules(circle, "n2;v1");
        Circles.layAndYear(circle);
        due("two", circle.look(0, 2), 1);
        due("one", circle.look(1, 2), 0);
        due("none", circle.look(2, 2), 0);
        Checks.rules(circle, "v0");
        Circles.layAndYear(circle);
        due("lost by a year without visitors", circle.look(0, 2), 0);
    }

    /** "Who is not OUT": the end of the last year out gives no seal (nothing is asked there); the next one does. */
    void noSealAtTheEndOfTheLastYearOut() {
        PeerCircle circle = Circles.of(8);
        Checks.rules(circle, "x1;b1");
        circle.lay();
        Circles.breach(circle, 0, 0);
        circle.year();
        circle.lay();
        due("it has visitors", circle.look(0, 8), 3);
        circle.year();
        due("not out", circle.look(0, 4), 0);
        due("no seal", circle.look(0, 2), 0);
        Circles.layAndYear(circle);
        due("a seal a year later", circle.look(0, 2), 1);
    }

    /** "(VISITS are laid for, and made by, those that are OUT, too.)" */
    void visitsForAndByThoseOut() {
        PeerCircle circle = Circles.laid(3);
        Checks.rules(circle, "x1;b20");
        for (int f = 0; f < 3; f++) {
            Circles.breach(circle, f, 0);
        }
        circle.year();
        due("all are out", circle.count(5), 3);
        due("all were there last year", circle.lay(), 0);
        circle.year();
        due("all visits", circle.lay(), 6);
        due("visitors of one that is out", circle.look(0, 8), 2);
        due("visits by it", circle.look(0, 9), 2);
        due("it vouches", circle.vouches(0, 1), 1);
        due("it tells", circle.tells(0, 1, 4, true), true);
        circle.tells(2, 1, 4, true);
        due("and that counts", circle.breaches(1), 16);
    }

    /** "BASKETS can be sold under the SEAL by a FARM that has it." */
    void soldOnlyUnderASeal() {
        PeerCircle circle = Circles.of(4);
        dueFalse(circle, "no seal yet", () -> circle.sell(0, 1));
        circle.lay();
        dueFalse(circle, "visited, no seal yet", () -> circle.sell(0, 1));
        circle.year();
        due("a seal", circle.sell(0, 1), true);
        Circles.layAndYear(circle);
        dueFalse(circle, "lost", () -> circle.sell(0, 1));
    }

    /** "DOUBTFUL are those that a FARM sold in YEARS at whose end a BREACH stood at it" */
    void doubtfulAtTheEndOfAYear() {
        PeerCircle circle = Circles.of(8);
        Circles.layAndYear(circle);
        circle.sell(0, 5);
        circle.lay();
        Circles.breach(circle, 0, 0);
        circle.sell(0, 6);
        due("not before the end", circle.look(0, 6), 0);
        circle.year();
        due("sold before and behind what was told", circle.look(0, 6), 11);
        due("below w: no step", circle.look(0, 3), 0);
        circle.sell(0, 40);
        Circles.layAndYear(circle);
        due("a year without a breach", circle.look(0, 6), 11);
        circle.lay();
        Circles.breach(circle, 0, 0);
        circle.year();
        due("a breach, nothing sold that year", circle.look(0, 6), 11);
        due("sold ever", circle.look(0, 5), 51);
    }

    /** "DOUBTFUL .. sold in YEARS": those of the year in which it comes out, too. */
    void doubtfulOfOneThatComesOut() {
        PeerCircle circle = Circles.of(8);
        Checks.rules(circle, "x1");
        Circles.layAndYear(circle);
        circle.sell(0, 10000);
        circle.lay();
        Circles.breach(circle, 0, 7);
        circle.year();
        due("out", circle.look(0, 4), 2);
        due("doubtful", circle.look(0, 6), 10000);
        due("this year", circle.look(0, 7), 0);
    }

    /** "(by what was told then)": at the end, not before it. */
    void doubtfulByWhatWasToldThen() {
        PeerCircle circle = Circles.of(8);
        Circles.layAndYear(circle);
        circle.sell(0, 5);
        circle.sell(1, 6);
        circle.lay();
        Circles.breach(circle, 0, 0);
        circle.tells(circle.visitor(0, 0), 0, 0, false);
        circle.tells(circle.visitor(1, 0), 1, 0, true);
        circle.year();
        due("taken back before the end", circle.look(0, 6), 0);
        due("told by one alone", circle.look(1, 6), 0);
    }

    /** "A GROUP is SEALED if its FARMS that have a SEAL are g hundredths of its FARMS or more" */
    void groupIsSealedAtG() {
        PeerCircle circle = new PeerCircle();
        for (int f = 0; f < 6; f++) {
            circle.farm(f, 3);
        }
        Checks.rules(circle, "n2;v1");
        Circles.layAndYear(circle);
        due("three of six", circle.count(4), 3);
        for (int g = 0; g <= 100; g++) {
            Checks.rules(circle, "g" + g);
            due("g " + g, circle.sealed(3), g <= 50 ? 1 : 0);
        }
        circle.farm(7, 3);
        for (int g = 0; g <= 100; g++) {
            Checks.rules(circle, "g" + g);
            due("three of seven, g " + g, circle.sealed(3), g <= 42 ? 1 : 0);
        }
    }

    /** "g hundredths (0 to 100": all of its farms, and none of them. */
    void groupIsSealedAt0And100() {
        PeerCircle circle = Circles.of(4);
        Checks.rules(circle, "g0");
        due("none needed", circle.sealed(0), 1);
        Checks.rules(circle, "g1");
        due("one hundredth, none has a seal", circle.sealed(0), 0);
        Circles.layAndYear(circle);
        Checks.rules(circle, "g100");
        due("all", circle.sealed(0), 1);
        circle.farm(5, 0);
        due("all but one", circle.sealed(0), 0);
        circle.farm(5, 1);
        Checks.rules(circle, "g80");
        due("one of another group is not asked", circle.sealed(0), 1);
    }

    /** "(no FARMS: it is not)" */
    void groupWithoutFarmsIsNotSealed() {
        PeerCircle circle = new PeerCircle();
        Checks.rules(circle, "g0");
        for (int group = 0; group < 4; group++) {
            due("no farms at all", circle.sealed(group), 0);
        }
        circle.farm(0, 1);
        int[] want = {0, 1, 0, 0};
        for (int group = 0; group < 4; group++) {
            due("farms of group 1 alone", circle.sealed(group), want[group]);
        }
    }

    /** "on the shortest way to it" */
    void trustByTheShortestWay() {
        PeerCircle circle = Circles.line();
        circle.lay();
        for (int a = 0; a < 10; a++) {
            for (int b = 0; b < 10; b++) {
                due("a line: trust(" + a + ", " + b + ")", circle.trust(a, b), Math.abs(a - b));
            }
        }
        PeerCircle round = Circles.laid(4);
        due("direct", round.trust(0, 1), 1);
        round.tells(0, 1, 0, true);
        due("by one between", round.trust(0, 1), 2);
        round.tells(2, 1, 0, true);
        due("by the other one between", round.trust(0, 1), 2);
        round.tells(0, 3, 0, true);
        due("by both", round.trust(0, 1), 3);
        round.tells(3, 1, 0, true);
        due("no way", round.trust(0, 1), NONE);
    }

    /** "(by THE VISITS of this YEAR)": those of last year lead nowhere. */
    void trustByTheVisitsOfThisYear() {
        PeerCircle circle = Circles.laid(4);
        due("this year", circle.trust(0, 1), 1);
        circle.year();
        due("not laid", circle.trust(0, 1), NONE);
        circle.lay();
        due("laid without visits", circle.trust(0, 1), NONE);
    }

    /** "0 for itself" */
    void trustInItselfIs0() {
        PeerCircle circle = Circles.of(10);
        for (int f = 0; f < 10; f++) {
            due("not laid: trust in " + f, circle.trust(f, f), 0);
        }
        circle.lay();
        for (int f = 0; f < 10; f++) {
            Circles.breach(circle, f, 0);
            due("laid: trust in " + f, circle.trust(f, f), 0);
        }
    }

    /** "All memory is the circle's own." */
    void memoryIsTheCirclesOwn() {
        PeerCircle circle = Circles.of(4);
        String before = State.of(circle);
        Circles.busy();
        Checks.rules(Circles.laid(9), "n1;v1;w1;x1;b1;g1");
        dueSame("other circles", before, State.of(circle));
        due("and it goes on", circle.lay(), 12);
    }

    /** "An object is used for at most 512 calls": the dearest ones up to the last. */
    void lastOf512Calls() {
        PeerCircle circle = Circles.of(10);
        for (int year = 1; year <= 251; year++) {
            due("visits are made", circle.lay() > 0, true);
            due("year", circle.year(), year);
        }
    }
}
