/** Promises 10 to 12, texts: the sentences that name a boundary case, with those of the term "Texts". */
public final class TextsTests {
    public static void main(String[] args) {
        Runner.run(TextsTests.class, 10, 12, args);
    }

    /** Each of the texts has the fault at this index. */
    private static void faultIs(Run x, int fault, String... texts) {
        for (String text : texts) {
            x.performed(text).is(-100 - fault);
        }
    }

    private static String times(int count, String part) {
        return part.repeat(count);
    }

    // ==== Promise 10: type

    // "There is a text of at most 60 characters"; "Returns the length of the text then; FULL if it has 60"

    static void promise10TheLengthGrowsFrom1To60(Run x) {
        for (int length = 1; length <= 60; length++) {
            x.type('t').is(length);
            x.total(10).is(length);
        }
    }

    static void promise10FullFromThe61stOn(Run x) {
        x.write(times(60, "t"));
        x.type('t').isFull();
        x.type(';').isFull();
        x.total(10).is(60);
    }

    static void promise10The60thCharacterIsOfTheText(Run x) {
        x.lay(0, 0, 0).is(0);
        x.write(times(19, "t0;") + "t0");
        x.type(';').is(60);
        x.perform().is(-160);
    }

    static void promise10ATextOf60CharactersCanBeCarriedOut(Run x) {
        x.letNothingClash();
        x.lay(0, 0, 0).is(0);
        x.write(times(6, "-0;+00@0;") + "k00000");
        x.total(10).is(60);
        x.perform().is(13);
        x.colour(0, 3).is(0);
    }

    static void promise10AFullTextCanBeEmptiedAndWrittenAgain(Run x) {
        x.write(times(60, "t"));
        x.type('t').isFull();
        x.clearText().is(60);
        x.type('t').is(1);
    }

    // "character: any character"

    static void promise10TheLeastAndTheGreatestCharacter(Run x) {
        x.type('\0').is(1);
        x.type('\uffff').is(2);
        x.type('\ud800').is(3);
        x.type('\u0080').is(4);
        x.total(10).is(4);
        x.perform().is(-100);
    }

    // "A method that returns an error or NONE changes nothing."

    static void promise10ARefusedTypeChangesNothing(Run x) {
        x.lay(0, 0, 0).is(0);
        x.write(times(15, "t14;"));
        String before = x.look();
        x.type('x').isFull();
        x.type('t').isFull();
        x.mustLookLike(before);
        x.perform().is(-160);
    }

    // type, clearText and a perform with a fault are no changes

    static void promise10TypeIsNoChange(Run x) {
        x.type('k').is(1);
        x.total(9).is(0);
        x.undo().isNone();
        x.total(10).is(1);
    }

    // ==== Promise 11: clearText

    // "Empties the text. Returns the length that it had."

    static void promise11OfTheEmptyTextIs0(Run x) {
        x.clearText().is(0);
        x.clearText().is(0);
    }

    static void promise11OfOneCharacterIs1(Run x) {
        x.type('k').is(1);
        x.clearText().is(1);
        x.clearText().is(0);
        x.total(10).is(0);
    }

    static void promise11OfTheFullTextIs60(Run x) {
        x.write(times(60, "k"));
        x.clearText().is(60);
        x.total(10).is(0);
    }

    static void promise11TheEmptiedTextEndsTooEarly(Run x) {
        x.write("k01234");
        x.perform().is(1);
        x.clearText().is(6);
        x.perform().is(-100);
    }

    static void promise11NothingOfTheOldTextComesBack(Run x) {
        x.write("k01234");
        x.clearText().is(6);
        x.type('k').is(1);
        x.perform().is(-101);
        x.type('0').is(2);
        x.perform().is(-102);
        x.performed("+00@0;t0").is(2);
        x.performed("+00").is(-103);
        x.performed("+00@").is(-104);
        x.performed("t0;").is(-103);
    }

    static void promise11ClearTextIsNoChange(Run x) {
        x.lay(0, 0, 0).is(0);
        x.type('k').is(1);
        x.clearText().is(1);
        x.total(9).is(1);
        x.undo().is(0);
        x.total(10).is(0);
    }

    // ==== Promise 12: perform

    // "It is a list of one or more orders with ";" between two"

    static void promise12TheEmptyTextEndsTooEarly(Run x) {
        x.perform().is(-100);
        x.total(9).is(0);
    }

    static void promise12OneOrderIsEnough(Run x) {
        x.performed("k01234").is(1);
    }

    static void promise12ThereIsNoSeparatorAhead(Run x) {
        faultIs(x, 0, ";", ";k01234", ";;");
    }

    static void promise12BehindASeparatorAnOrderIsDue(Run x) {
        faultIs(x, 7, "k01234;", "k01234;;", "k01234;;k01234");
        faultIs(x, 14, "k01234;k12345;", "k01234;k12345;;");
    }

    static void promise12BetweenTwoOrdersASeparatorIsDue(Run x) {
        faultIs(x, 6, "k01234k01234", "k01234,k01234", "k01234 ;k01234", "k01234:", "k012345", "+00@77+");
        faultIs(x, 7, "+00@149+00@0", "+00@1490", "+00@149 ");
        faultIs(x, 3, "-12-13", "t12t13", "t12+00@0", "t12k01234");
    }

    static void promise12TheMostOrdersAre20(Run x) {
        x.lay(0, 0, 0).is(0);
        x.performed(times(19, "t0;") + "t0").is(20);
        x.cross(0, 1).is(0);
        x.performed(times(18, "t0;") + "t0").is(19);
        x.cross(0, 1).is(3);
    }

    // "k", a kind (0 to 5) and four colours (0 to 5 each): the colours of its arms 0 to 3"

    static void promise12KindsOfK(Run x) {
        x.performed("k01111;k52222").is(2);
        x.colour(0, 0).is(1);
        x.colour(5, 3).is(2);
        faultIs(x, 1, "k6", "k61111", "k7", "k9", "k/", "k:", "k-", "k;", "ka", "kk");
    }

    static void promise12ColoursOfK(Run x) {
        x.performed("k30505").is(1);
        x.colour(3, 0).is(0);
        x.colour(3, 1).is(5);
        x.colour(3, 2).is(0);
        x.colour(3, 3).is(5);
        for (int arm = 0; arm < 4; arm++) {
            String begin = "k0" + times(arm, "0");
            faultIs(x, 2 + arm, begin + "6", begin + "/", begin + ":", begin + ";", begin + "9");
        }
    }

    static void promise12KThatEndsTooEarly(Run x) {
        faultIs(x, 1, "k");
        faultIs(x, 2, "k0");
        faultIs(x, 3, "k00");
        faultIs(x, 4, "k000");
        faultIs(x, 5, "k0000");
        x.performed("k00000").is(1);
    }

    // "+", a kind, a digit for quarter turns (0 to 3), "@" and a cell (0 to 149): a cross is laid"

    static void promise12KindsOfPlus(Run x) {
        x.letNothingClash();
        x.performed("+00@0;+50@77").is(2);
        x.cross(0, 0).is(0);
        x.cross(1, 0).is(5);
        faultIs(x, 1, "+6", "+60@0", "+9", "+/", "+:", "+@", "+;");
    }

    static void promise12TurnsOfPlus(Run x) {
        x.letNothingClash();
        x.performed("+00@0;+03@77").is(2);
        x.cross(0, 1).is(0);
        x.cross(1, 1).is(3);
        faultIs(x, 2, "+04", "+04@0", "+05", "+0/", "+0:", "+0@", "+0;");
    }

    static void promise12TheSignBeforeTheCellOfPlus(Run x) {
        faultIs(x, 3, "+000", "+00;", "+00a", "+00?", "+00A", "+00\u0140");
        faultIs(x, 4, "+00@@", "+00@;", "+00@/", "+00@:", "+00@-1");
    }

    static void promise12PlusThatEndsTooEarly(Run x) {
        faultIs(x, 1, "+");
        faultIs(x, 2, "+0");
        faultIs(x, 3, "+00");
        faultIs(x, 4, "+00@");
        x.performed("+00@0").is(1);
    }

    static void promise12TheCells0And149OfPlus(Run x) {
        x.performed("+00@0").is(1);
        x.take(0).is(0);
        x.performed("+00@149").is(1);
        x.cross(0, 2).is(149);
        faultIs(x, 6, "+00@150", "+00@159");
    }

    // "-" and a cell: the cross that lies on this cell is taken away"

    static void promise12MinusOnTheMiddleAndOnEachArm(Run x) {
        for (int cell : new int[] {77, 62, 78, 92, 76}) {
            x.lay(0, 0, 77).is(0);
            x.performed("-" + cell).is(1);
            x.total(0).is(0);
        }
    }

    static void promise12MinusOverTheEdge(Run x) {
        x.lay(0, 0, 0).is(0);
        x.performed("-149").isUnknown();
        x.performed("-14").is(1);
        x.lay(0, 0, 149).is(0);
        x.performed("-14").is(1);
        x.total(0).is(0);
    }

    static void promise12MinusThatEndsTooEarly(Run x) {
        faultIs(x, 1, "-", "t");
        faultIs(x, 3, "-0;", "t0;");
        faultIs(x, 4, "-0;-", "t0;t");
    }

    static void promise12AfterMinusTheNumbersBehindAreLessBy1(Run x) {
        x.letNothingClash();
        x.performed("+00@0;+11@5;+22@10;-0;-5").is(5);
        x.total(0).is(1);
        x.cross(0, 0).is(2);
        x.cross(0, 2).is(10);
        x.cell(10, 0).is(0);
    }

    // "t" and a cell: the cross that lies there is turned by one quarter turn more"

    static void promise12TTurnsFromThreeToNone(Run x) {
        x.lay(0, 2, 77).is(0);
        x.performed("t77").is(1);
        x.cross(0, 1).is(3);
        x.perform().is(1);
        x.cross(0, 1).is(0);
    }

    static void promise12TOnTheMiddleAndOnEachArm(Run x) {
        x.lay(0, 0, 77).is(0);
        x.performed("t77;t62;t78;t92;t76").is(5);
        x.cross(0, 1).is(1);
        for (int cell : new int[] {61, 63, 91, 93}) {
            x.performed("t" + cell).isUnknown();
        }
    }

    // "Cells have no zeros ahead of other digits"

    static void promise12TheCell0MayBeZeroAlone(Run x) {
        x.performed("+00@0;t0;-0").is(3);
    }

    static void promise12NoZeroAheadOfOtherDigits(Run x) {
        faultIs(x, 2, "-00", "-01", "-07", "-0149", "t00", "t09");
        faultIs(x, 5, "+00@00", "+00@01", "+00@077");
    }

    static void promise12ZerosBehindOtherDigits(Run x) {
        x.letNothingClash();
        x.performed("+00@10;+00@100;t10;t100").is(4);
        x.cross(0, 2).is(10);
        x.cross(1, 2).is(100);
    }

    // "a digit by which a number would be above 149 is not allowed"

    static void promise12CellsOfOneTwoAndThreeDigits(Run x) {
        x.letNothingClash();
        for (int cell : new int[] {0, 1, 9, 10, 14, 15, 19, 90, 99, 100, 109, 110, 139, 140, 148, 149}) {
            x.performed("+00@" + cell).is(1);
            x.cross(0, 2).is(cell);
            x.take(0).is(0);
        }
    }

    static void promise12TheThirdDigitAfter14MayBe9(Run x) {
        x.lay(0, 0, 149).is(0);
        x.performed("t149").is(1);
    }

    static void promise12NoThirdDigitAfter15(Run x) {
        faultIs(x, 3, "-150", "-151", "-159", "t150", "t155");
        x.lay(0, 0, 15).is(0);
        x.performed("t15").is(1);
    }

    static void promise12NoThirdDigitAfter16AndMore(Run x) {
        faultIs(x, 3, "-160", "-200", "-990", "-999", "t210", "t750");
        faultIs(x, 6, "+00@160", "+00@999");
    }

    static void promise12NoFourthDigit(Run x) {
        faultIs(x, 4, "-1490", "-1000", "-1001", "t1111");
        faultIs(x, 7, "+00@1490", "+00@1000");
    }

    static void promise12ACellWithoutDigits(Run x) {
        faultIs(x, 1, "-;", "-a", "--1", "-+1", "- 1", "t;", "tt", "t/", "t:", "-@");
    }

    static void promise12TheSignsBesideTheDigitsAreNoDigits(Run x) {
        faultIs(x, 1, "-/", "-:");
        faultIs(x, 2, "-1/", "-1:", "t0/", "t0:");
        faultIs(x, 3, "-12/", "-12:", "-10/", "-10:");
        faultIs(x, 4, "-100/", "-100:");
    }

    // "The fault of the text is the index, from 0, of the first character that is not allowed at its place"

    static void promise12TheFaultAtTheFirstCharacter(Run x) {
        faultIs(x, 0, "x", "K00000", "T0", " k00000", "0", "@", "\0", "\uffff", "\u016b00000", "*", ",", "u");
    }

    static void promise12TheFirstOfTwoFaults(Run x) {
        faultIs(x, 2, "k0xx00", "-0x;x");
        faultIs(x, 3, "-0;xx");
        faultIs(x, 1, "k6;k6");
    }

    static void promise12TheFaultAtTheLastOf60Characters(Run x) {
        faultIs(x, 59, times(19, "t0;") + "t0x", times(19, "t0;") + "t00", times(19, "t0;") + "t01");
    }

    static void promise12ASignAbove255IsNoDigit(Run x) {
        faultIs(x, 1, "-\u0130", "-\u0660", "k\u0131");
        faultIs(x, 2, "-1\u0130", "k0\u0131");
        faultIs(x, 3, "-12\u0130", "-12\u013b-1", "-12\uff10");
        faultIs(x, 0, "\u012d0", "\u0174" + "0");
    }

    // "or the length of the text if it ends too early"

    static void promise12TheFullTextEndsTooEarlyBehindASeparator(Run x) {
        faultIs(x, 60, times(20, "t0;"), times(18, "t0;") + "+00@0;");
    }

    static void promise12TheFullTextEndsTooEarlyWithinAnOrder(Run x) {
        faultIs(x, 60, times(19, "t0;") + "k00", times(19, "t0;") + "+00", times(14, "t10;") + "+00@");
        faultIs(x, 60, times(17, "t0;") + "t10;t10;-", times(17, "t0;") + "t10;t10;t");
    }

    // "Carries out the orders of the text, which stays"

    static void promise12TheTextStays(Run x) {
        x.lay(0, 0, 0).is(0);
        x.performed("t0;t1").is(2);
        x.total(10).is(5);
        x.perform().is(2);
        x.total(10).is(5);
        x.cross(0, 1).is(0);
        x.clearText().is(5);
    }

    static void promise12TheTextStaysAfterAFaultAndAfterAnError(Run x) {
        x.performed("-0;").is(-103);
        x.total(10).is(3);
        x.type('t').is(4);
        x.type('0').is(5);
        x.perform().isUnknown();
        x.total(10).is(5);
        x.clearText().is(5);
    }

    // "one after the other"

    static void promise12AnOrderSeesWhatTheOnesBeforeItDid(Run x) {
        x.performed("+00@0;t0;t15;-14;+11@149").is(5);
        x.total(0).is(1);
        x.cross(0, 0).is(1);
        x.cross(0, 1).is(1);
        x.cross(0, 2).is(149);
    }

    // "all of them, or none if one of them is not possible"

    static void promise12NoneIfTheFirstIsNotPossible(Run x) {
        x.lay(0, 0, 0).is(0);
        x.performed("+00@0;k00000;-0").isNotPossible();
        x.total(0).is(1);
        x.colour(0, 1).is(1);
    }

    static void promise12NoneIfTheLastIsNotPossible(Run x) {
        x.layAlikePair();
        String before = x.look();
        x.performed("k54321;-0;+00@77;t77;t4;-9").isUnknown();
        x.clearText().is(26);
        x.mustLookLike(before);
        String cells = x.lookAtCells();
        x.performed("k54321;-0;+00@77;t77;t4;+00@92").isNotPossible();
        x.mustHaveCells(cells);
        x.clearText().is(30);
        x.mustLookLike(before);
    }

    static void promise12NoneIfTheLastOf20IsNotPossible(Run x) {
        x.lay(0, 0, 0).is(0);
        x.performed(times(19, "t0;") + "t2").isUnknown();
        x.cross(0, 1).is(0);
        x.total(9).is(1);
    }

    static void promise12NoneOf30CrossesIsMissingAfterAnError(Run x) {
        x.coverTheBoardWithAllKinds();
        x.write("-0;-5;-0");
        String before = x.look();
        x.perform().isUnknown();
        x.mustLookLike(before);
        x.cell(148, 0).is(29);
    }

    static void promise12AClashThatALaterOrderWouldMendIsNotPossible(Run x) {
        x.layAlikePair();
        x.performed("k00000;k10000").isNotPossible();
        x.performed("k00000;-3").isNotPossible();
        x.performed("-3;k00000").is(2);
    }

    // "(one by which nothing is different is)"

    static void promise12AnOrderByWhichNothingIsDifferentIsPossible(Run x) {
        x.layAlikePair();
        x.performed("k00123").is(1);
        x.performed("k11234;k00123").is(2);
        x.performed("-0;+00@0").is(2);
    }

    // "This is one change."

    static void promise12PerformIsOneChange(Run x) {
        x.performed("+00@0;+00@5;t0;k54321;-5").is(5);
        x.total(9).is(1);
        x.undo().is(0);
        x.total(0).is(0);
        x.colour(5, 0).is(5);
    }

    static void promise12PerformByWhichNothingIsDifferentIsAChange(Run x) {
        x.performed("k00123").is(1);
        x.total(9).is(1);
        x.perform().is(1);
        x.total(9).is(2);
    }

    // "-100 minus the fault of the text if it has one (this is an error)"

    static void promise12AFaultIsAnErrorAndChangesNothing(Run x) {
        x.layAlikePair();
        String before = x.look();
        x.performed("-0;k54321;").is(-110);
        x.clearText().is(10);
        x.mustLookLike(before);
        x.performed("-0;-0").isUnknown();
        x.performed("").is(-100);
        x.mustLookLike(before);
    }

    static void promise12AFaultGoesBeforeTheErrorsOfOrders(Run x) {
        x.lay(0, 0, 0).is(0);
        x.performed("-77;x").is(-104);
        x.performed("+00@0;").is(-106);
        x.performed("t77;t77;t").is(-109);
    }

    // "otherwise the error of the first order that has one"

    static void promise12TheErrorOfTheFirstOrderThatHasOne(Run x) {
        x.layAlikePair();
        x.performed("-77;+00@0").isUnknown();
        x.performed("+00@0;-77").isNotPossible();
        x.performed("k00123;t77;t0").isUnknown();
        x.performed("k00123;t0;t77").isNotPossible();
    }

    // "UNKNOWN if no cross lies on its cell"

    static void promise12UnknownIfNoCrossLiesOnTheCellOfMinus(Run x) {
        x.performed("-0").isUnknown();
        x.lay(0, 0, 0).is(0);
        x.performed("-16").isUnknown();
        x.performed("-0;-0").isUnknown();
        x.total(0).is(1);
    }

    static void promise12UnknownIfNoCrossLiesOnTheCellOfT(Run x) {
        x.performed("t0").isUnknown();
        x.lay(0, 0, 0).is(0);
        x.performed("t16").isUnknown();
        x.performed("-0;t0").isUnknown();
        x.total(0).is(1);
    }

    // "otherwise as the methods return it"

    static void promise12NotPossibleAsLayReturnsIt(Run x) {
        x.lay(0, 0, 0).is(0);
        x.performed("+00@0").isNotPossible();
        x.performed("+00@1").isNotPossible();
        x.performed("+00@2").isNotPossible();
        x.performed("+00@3").isNotPossible();
        x.performed("+02@3").is(1);
    }

    static void promise12NotPossibleGoesBeforeFullWith30(Run x) {
        x.coverTheBoard();
        x.performed("+00@0").isNotPossible();
        x.performed("-0;+00@0;+00@1").isNotPossible();
        x.performed("-0;+00@0").is(2);
        x.total(0).is(30);
    }

    static void promise12NotPossibleAsTurnReturnsIt(Run x) {
        x.layAlikePair();
        x.performed("t0").isNotPossible();
        x.performed("t2").isNotPossible();
        x.performed("-0;t2").is(2);
    }

    // "k": NOT_POSSIBLE if arms would clash once all four colours are changed"

    static void promise12KIsNotPossibleIfArmsWouldClash(Run x) {
        x.layAlikePair();
        x.performed("k00023").isNotPossible();
        x.performed("k10234").isNotPossible();
        x.performed("k05155").is(1);
    }

    static void promise12KIsPossibleIfOneColourAloneWouldClash(Run x) {
        // The arms 1 and 3 of the kind 0 touch one another, from the left and from the right.
        x.paint(0, 3, 1).is(3);
        x.lay(0, 0, 0).is(0);
        x.lay(0, 0, 3).is(1);
        x.paint(0, 1, 4).isNotPossible();
        x.paint(0, 3, 4).isNotPossible();
        x.performed("k00424").is(1);
        x.cell(1, 2).is(4);
        x.cell(2, 2).is(4);
        x.performed("k00425").isNotPossible();
    }

    static void promise12KIsNotPossibleIfArmsWouldBeAlikeUnderRule1(Run x) {
        x.setRule(1).is(0);
        x.lay(0, 0, 0).is(0);
        x.lay(0, 0, 3).is(1);
        x.performed("k00121").isNotPossible();
        x.performed("k05554").is(1);
    }
}
