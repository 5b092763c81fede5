/** The boundary cases of promises 25 to 28: texts. */
final class TextsEdges {
    private static final int INVALID = Calls.INVALID;
    private static final int IMPOSSIBLE = Calls.IMPOSSIBLE;
    private static final int LIMIT = Calls.LIMIT;
    private static final int NOTHING = Calls.NOTHING;

    private static final String NINE_TERMS = "x-1+y-1+x-1+y-1+x";
    private static final String TEN_TERMS = NINE_TERMS + "-9";
    /** Nine terms in as many characters as a text can have. */
    private static final String SIXTY =
            "99xxyy-99xxyy+99xxyy-99xxyy+99xxyy-99xxyy+99xxyy-99xxyy-7xyy";

    private TextsEdges() {
    }

    // ---- 25: type

    static void promise25CharacterAtItsEnds(Calls c) {
        c.type(32, 1);
        c.type(126, 2);
        c.count(6, 2);
    }

    static void promise25CharacterBeyondItsEnds(Calls c) {
        c.type(31, INVALID);
        c.type(127, INVALID);
        c.count(6, 0);
    }

    static void promise25WildNumbers(Calls c) {
        for (int wild : Calls.WILD) {
            c.type(wild, INVALID);
        }
        c.type(0, INVALID);
        c.type(-1, INVALID);
        c.type(256 + 'x', INVALID);
        c.type(65536 + 'x', INVALID);
        c.count(6, 0);
    }

    static void promise25TheSixtieth(Calls c) {
        c.write(SIXTY);
        c.count(6, 60);
    }

    static void promise25TheSixtyFirst(Calls c) {
        c.write(SIXTY);
        c.type('+', LIMIT);
        c.count(6, 60);
        c.read(9);
    }

    static void promise25InvalidRatherThanLimit(Calls c) {
        c.write(SIXTY);
        c.type(31, INVALID);
        c.type(127, INVALID);
    }

    static void promise25RoomAgainBehindClearText(Calls c) {
        c.write(SIXTY);
        c.clearText(60);
        c.write(SIXTY);
        c.count(6, 60);
    }

    static void promise25WithFaults(Calls c) {
        c.type('?', 1);
        c.type('?', 2);
        c.type('x', 3);
        c.fault(0, 0);
    }

    static void promise25IsNoChange(Calls c) {
        c.type('x', 1);
        c.count(5, 0);
        c.undo(IMPOSSIBLE);
    }

    static void promise25RefusedChangesNothing(Calls c) {
        c.changesNothing(d -> {
            d.rich();
            d.write(SIXTY);
        }, d -> {
            d.type('x', LIMIT);
            d.type(31, INVALID);
        });
    }

    // ---- 26: clearText

    static void promise26EmptyText(Calls c) {
        c.clearText(0);
        c.count(6, 0);
    }

    static void promise26FullText(Calls c) {
        c.write(SIXTY);
        c.clearText(60);
        c.count(6, 0);
        c.clearText(0);
    }

    static void promise26NothingOfItStays(Calls c) {
        c.write("zz?");
        c.clearText(3);
        c.readOf("y", 1);
        c.termIs(0, 1, 0, 1, 0);
        c.count(6, 1);
    }

    static void promise26EmptyTextHasAFault(Calls c) {
        c.readOf("5x", 1);
        c.clearText(2);
        c.fault(0, 0);
        c.fault(1, 1);
        c.read(IMPOSSIBLE);
        c.termIs(0, 5, 1, 0, 0);
    }

    static void promise26IsNoChange(Calls c) {
        c.write("x");
        c.clearText(1);
        c.count(5, 0);
        c.undo(IMPOSSIBLE);
        c.count(6, 0);
    }

    // ---- 27: fault

    static void promise27WhatBeyondItsEnds(Calls c) {
        c.fault(-1, INVALID);
        c.fault(2, INVALID);
    }

    static void promise27InvalidRatherThanNotFound(Calls c) {
        c.write("x");
        c.fault(-1, INVALID);
        c.fault(2, INVALID);
    }

    static void promise27WildNumbers(Calls c) {
        for (int wild : Calls.WILD) {
            c.fault(wild, INVALID);
        }
    }

    static void promise27NoFault(Calls c) {
        c.write("x");
        c.fault(0, NOTHING);
        c.fault(1, NOTHING);
    }

    static void promise27EmptyText(Calls c) {
        c.faultOf("", 0, 1);
    }

    static void promise27EndsBehindTheFirstSign(Calls c) {
        c.faultOf("-", 1, 1);
    }

    static void promise27EndsBehindASign(Calls c) {
        c.faultOf("5x+", 3, 1);
        c.faultOf("5x-", 3, 1);
    }

    static void promise27EndsTooEarlyAtSixty(Calls c) {
        c.faultOf("99xxyy-99xxyy+99xxyy-99xxyy+99xxyy-99xxyy+99xxyy-99xxyy-7xy+", 60, 1);
    }

    static void promise27MinusAheadOfTheFirst(Calls c) {
        c.readOf("-3x", 1);
        c.termIs(0, -3, 1, 0, 0);
    }

    static void promise27PlusAheadOfTheFirst(Calls c) {
        c.faultOf("+3x", 0, 1);
    }

    static void promise27SignBehindASign(Calls c) {
        c.faultOf("--x", 1, 1);
        c.faultOf("-+x", 1, 1);
        c.faultOf("x+-y", 2, 1);
        c.faultOf("x-+y", 2, 1);
        c.faultOf("x--y", 2, 1);
    }

    static void promise27NumberBehindLetters(Calls c) {
        c.faultOf("x2", 1, 1);
        c.faultOf("3xy4", 3, 1);
    }

    static void promise27FirstDigitZero(Calls c) {
        c.faultOf("0", 0, 1);
        c.faultOf("-0x", 1, 1);
        c.faultOf("x+05", 2, 1);
    }

    static void promise27SecondDigitZero(Calls c) {
        c.readOf("10x-90", 2);
        c.termIs(0, 10, 1, 0, 0);
        c.termIs(1, -90, 0, 0, 0);
    }

    static void promise27ThirdDigit(Calls c) {
        c.faultOf("100", 2, 1);
        c.faultOf("x-999x", 4, 1);
    }

    static void promise27TwoDigits(Calls c) {
        c.readOf("1x+99", 2);
        c.termIs(0, 1, 1, 0, 0);
        c.termIs(1, 99, 0, 0, 0);
    }

    static void promise27EachCharacterAlone(Calls c) {
        for (int character = 32; character <= 126; character++) {
            c.meshes.clearText();
            c.type(character, 1);
            if ("xy123456789".indexOf(character) >= 0) {
                c.fault(0, NOTHING);
                c.fault(1, NOTHING);
            } else {
                c.fault(0, character == '-' ? 1 : 0);
                c.fault(1, character == 'z' ? 2 : 1);
            }
        }
    }

    /** Behind a letter there is a sign or one more letter. */
    static void promise27EachCharacterBehindALetter(Calls c) {
        for (int character = 32; character <= 126; character++) {
            c.meshes.clearText();
            c.type('x', 1);
            c.type(character, 2);
            if ("xy".indexOf(character) >= 0) {
                c.fault(0, NOTHING);
                c.fault(1, NOTHING);
            } else {
                c.fault(0, character == '+' || character == '-' ? 2 : 1);
                c.fault(1, character == 'z' ? 2 : 1);
            }
        }
    }

    /** Those beside the signs that can stand there, and capital letters. */
    static void promise27CharactersBesideThoseThatCan(Calls c) {
        c.faultOf("x/", 1, 1);
        c.faultOf("x:", 1, 1);
        c.faultOf("w", 0, 1);
        c.faultOf("{", 0, 1);
        c.faultOf("x,", 1, 1);
        c.faultOf("x*", 1, 1);
        c.faultOf("x.", 1, 1);
        c.faultOf("X", 0, 1);
    }

    static void promise27Spaces(Calls c) {
        c.faultOf(" x", 0, 1);
        c.faultOf("x ", 1, 1);
        c.faultOf("x +y", 1, 1);
    }

    static void promise27LetterOfTwoVariables(Calls c) {
        c.faultOf("xyz", 2, 2);
        c.readOf("xy", 1);
    }

    static void promise27LetterOfOneVariable(Calls c) {
        c.variables(1, 2);
        c.faultOf("xy", 1, 2);
        c.faultOf("3z", 1, 2);
        c.readOf("xx", 1);
    }

    static void promise27LettersOfThreeVariables(Calls c) {
        c.variables(3, 2);
        c.readOf("z-y+x", 3);
        c.faultOf("w", 0, 1);
    }

    static void promise27AsVariablesAreThen(Calls c) {
        c.write("xyz");
        c.fault(0, 2);
        c.variables(3, 2);
        c.fault(0, NOTHING);
        c.variables(1, 3);
        c.fault(0, 1);
        c.fault(1, 2);
        c.undo(1);
        c.fault(0, NOTHING);
    }

    static void promise27TheFourthLetter(Calls c) {
        c.readOf("xyxy", 1);
        c.termIs(0, 1, 2, 2, 0);
    }

    static void promise27TheFifthLetter(Calls c) {
        c.faultOf("xyxyx", 4, 3);
        c.faultOf("12yyyyy", 6, 3);
        c.faultOf("x+xxxxxx", 6, 3);
    }

    static void promise27LettersOfEachTerm(Calls c) {
        c.readOf("xxxx-yyyy+xxyy", 3);
    }

    static void promise27TheFifthLetterOfNoVariable(Calls c) {
        c.faultOf("xxxxz", 4, 2);
        c.variables(1, 2);
        c.faultOf("xxxxy", 4, 2);
    }

    static void promise27NoLetterBehindFour(Calls c) {
        c.faultOf("xxxx5", 4, 1);
        c.faultOf("xxxx?", 4, 1);
    }

    static void promise27TheTenthTerm(Calls c) {
        c.readOf(TEN_TERMS, 10);
        c.readOf("-" + TEN_TERMS, 10);
    }

    static void promise27TheEleventhTerm(Calls c) {
        c.faultOf(TEN_TERMS + "+x", 19, 4);
        c.faultOf(TEN_TERMS + "-x", 19, 4);
    }

    static void promise27TheEleventhTermBehindAFirstSign(Calls c) {
        c.faultOf("-" + TEN_TERMS + "-x", 20, 4);
    }

    static void promise27OtherFaultAheadOfTheEleventhTerm(Calls c) {
        c.faultOf(TEN_TERMS + "z+x", 19, 2);
        c.faultOf(TEN_TERMS + "xxxxx+x", 23, 3);
        c.faultOf(TEN_TERMS + "?+x", 19, 1);
    }

    static void promise27OtherFaultBehindTheEleventhTerm(Calls c) {
        c.faultOf(TEN_TERMS + "+z", 19, 4);
        c.faultOf(TEN_TERMS + "+?", 19, 4);
    }

    static void promise27SignInPlaceOfTheTenthTerm(Calls c) {
        c.faultOf(NINE_TERMS + "-", 18, 1);
        c.faultOf(NINE_TERMS + "-+x", 18, 1);
    }

    static void promise27TheFirstFromTheLeft(Calls c) {
        c.faultOf("z?", 0, 2);
        c.faultOf("?z", 0, 1);
        c.faultOf("xxxxxz", 4, 3);
        c.faultOf("x2+z", 1, 1);
    }

    static void promise27FaultIsMended(Calls c) {
        c.write("x+");
        c.fault(0, 2);
        c.type('y', 3);
        c.fault(0, NOTHING);
        c.type('?', 4);
        c.fault(0, 3);
        c.fault(1, 1);
    }

    static void promise27SixtyCharacters(Calls c) {
        c.write(SIXTY);
        c.fault(0, NOTHING);
    }

    static void promise27LastOfSixtyCharacters(Calls c) {
        c.faultOf(SIXTY.substring(0, 59) + "?", 59, 1);
        c.faultOf(SIXTY.substring(0, 59) + "z", 59, 2);
    }

    static void promise27ChangesNothing(Calls c) {
        c.changesNothing(Calls::rich, d -> {
            d.fault(0, NOTHING);
            d.fault(2, INVALID);
        });
    }

    // ---- 28: read

    static void promise28EmptyText(Calls c) {
        c.read(IMPOSSIBLE);
        c.count(5, 0);
    }

    static void promise28OneTerm(Calls c) {
        c.readOf("7", 1);
        c.termIs(0, 7, 0, 0, 0);
        c.value(9, 9, 0, 0, 7);
    }

    static void promise28FactorOne(Calls c) {
        c.readOf("x-y+1", 3);
        c.termIs(0, 1, 1, 0, 0);
        c.termIs(1, -1, 0, 1, 0);
        c.termIs(2, 1, 0, 0, 0);
    }

    static void promise28FactorsAtTheirEnds(Calls c) {
        c.readOf("99x-99y", 2);
        c.termIs(0, 99, 1, 0, 0);
        c.termIs(1, -99, 0, 1, 0);
    }

    static void promise28LettersInAnyOrder(Calls c) {
        c.variables(3, 2);
        c.readOf("zyxz-yx", 2);
        c.termIs(0, 1, 1, 1, 2);
        c.termIs(1, -1, 1, 1, 0);
    }

    static void promise28SamePowersStayApart(Calls c) {
        c.readOf("xy-yx", 2);
        c.termIs(0, 1, 1, 1, 0);
        c.termIs(1, -1, 1, 1, 0);
    }

    static void promise28TenTerms(Calls c) {
        c.readOf(TEN_TERMS, 10);
        c.count(1, 10);
        c.termIs(0, 1, 1, 0, 0);
        c.termIs(1, -1, 0, 0, 0);
        c.termIs(9, -9, 0, 0, 0);
        c.term(1, 0, 0, 0, LIMIT);
    }

    static void promise28ElevenTerms(Calls c) {
        c.term(5, 0, 1, 0, 1);
        c.faultOf(TEN_TERMS + "+x", 19, 4);
        c.count(1, 1);
        c.termIs(0, 5, 0, 1, 0);
    }

    static void promise28SixtyCharacters(Calls c) {
        c.readOf(SIXTY, 9);
        c.termIs(0, 99, 2, 2, 0);
        c.termIs(7, -99, 2, 2, 0);
        c.termIs(8, -7, 1, 2, 0);
    }

    static void promise28InPlaceOfTenTerms(Calls c) {
        c.ones(10);
        c.readOf("3x", 1);
        c.count(1, 1);
        c.termIs(0, 3, 1, 0, 0);
        c.termOf(1, 0, NOTHING);
        c.value(2, 0, 0, 0, 6);
    }

    static void promise28TheTextStays(Calls c) {
        c.readOf("3x", 1);
        c.count(6, 2);
        c.type('y', 3);
        c.read(1);
        c.termIs(0, 3, 1, 1, 0);
    }

    /** What changes the function behind it must not come into what is read next. */
    static void promise28TwiceTheSame(Calls c) {
        c.readOf("3x+2", 2);
        c.dropTerm(0, 3);
        c.read(2);
        c.termIs(0, 3, 1, 0, 0);
        c.termIs(1, 2, 0, 0, 0);
    }

    static void promise28IsAChange(Calls c) {
        c.readOf("3x", 1);
        c.count(5, 1);
        c.read(1);
        c.count(5, 2);
        c.undo(1);
        c.undo(0);
        c.count(1, 0);
    }

    static void promise28TheRestStays(Calls c) {
        c.term(1, 1, 0, 0, 1);
        c.poll(1);
        c.bound(0, -9, 9, 1);
        c.readOf("y", 1);
        c.placeIs(-4, 0, 0, 8);
        c.accountsAre(1, 1, 2, 1);
        c.count(10, -9);
        c.count(2, 4);
    }

    static void promise28FaultChangesNothing(Calls c) {
        c.changesNothing(d -> {
            d.rich();
            d.write("x+y-?");
        }, d -> d.read(IMPOSSIBLE));
    }

    static void promise28FaultBehindTermsChangesNothing(Calls c) {
        c.term(5, 0, 1, 0, 1);
        c.faultOf("3x+4y+z", 6, 2);
        c.count(1, 1);
        c.termIs(0, 5, 0, 1, 0);
    }
}
