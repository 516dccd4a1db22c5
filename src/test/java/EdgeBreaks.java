/** Breaks of the edges that the document names, seen by the tests of edges. */
final class EdgeBreaks extends Breaks {
    private static final String IS_CELL = "return number >= 0 && number < CELLS;";
    private static final String IS_HOUR = "return number >= 0 && number < HOURS;";
    private static final String IS_SQUARES = "return n >= 0 && n <= MOST_SQUARES;";
    private static final String IS_HANGING = "return bits >= 0 && bits < HANGINGS && Integer.bitCount(bits) <= MOST_SQUARES;";
    private static final String IS_WISH = "return number >= 0 && number < lease.wishCount();";
    private static final String NEXT_IN_ROW = "return cell - column + (column + COLUMNS + by) % COLUMNS;";
    private static final String GRANTS = "(hanging & cells.at(wish)) == needs.at(wish)";
    private static final String HANG = "public int hang(int cell) { ";
    private static final String MOVE = "public int move(int cell, int by) { ";
    private static final String TELL = "public int tell(int place, int hour, boolean dark) { ";
    private static final String LET = "reader.readThrough(text); survey.forget(); acts.clear(); emptySlots(); ";
    private static final String JUDGED = "if (n < 1 || n > 2 || row < 0 || row > (n == 1 ? 999 : 999999)) { return OUTSIDE; } ";

    EdgeBreaks() {
        ofLettings();
        ofActs();
        ofWorths();
        ofToldAndKept();
    }

    private void ofLettings() {
        numbers();
        newObjects();
        texts();
        faults();
        faultsOfWishesAndOwed();
        lettings();
        looks();
        looksThatChange();
    }

    private void ofActs() {
        hangAndTake();
        moves();
        hoursAndUndo();
        judged();
    }

    private void ofWorths() {
        worths();
        bests();
        barsLossFlow();
        prices();
    }

    private void ofToldAndKept() {
        told();
        fits();
        winds();
        storms();
        slots();
        counts();
    }

    private void numbers() {
        broken(IS_CELL, "return number < CELLS;", "placeTooSmall", "darkPlaceTooSmall", "readTooSmall", "hangTooSmall",
            "takeTooSmall", "moveCellTooSmall", "lossTooSmall", "tellPlaceTooSmall");
        broken(IS_CELL, "return number >= 0 && number <= CELLS;", "placeTooGreat", "darkPlaceTooGreat", "readTooGreat",
            "hangTooGreat", "takeTooGreat", "moveCellTooGreat", "lossTooGreat", "tellPlaceTooGreat");
        broken(IS_CELL, "return number > 0 && number < CELLS;", "placeFirstAndLast", "hangFirstAndLast",
            "takeFirstAndLast", "lossOfNothing", "tellFirstAndLast", "darkFirstAndLast", "readFirstAndSixth");
        broken(IS_CELL, "return number >= 0 && number < CELLS - 1;", "placeFirstAndLast", "hangFirstAndLast",
            "takeFirstAndLast", "lossOfNothing", "tellFirstAndLast", "darkFirstAndLast", "readFirstAndSixth",
            "moveRoundUpwards", "judgeCellTooGreat");
        broken(IS_HOUR, "return number < HOURS;", "darkHourTooSmall", "tellHourTooSmall");
        broken(IS_HOUR, "return number >= 0 && number <= HOURS;", "darkHourTooGreat", "tellHourTooGreat");
        broken(IS_HOUR, "return number > 0 && number < HOURS;", "darkFirstAndLast", "tellFirstAndLast");
        broken(IS_HOUR, "return number >= 0 && number < HOURS - 1;", "darkFirstAndLast", "tellFirstAndLast");
        broken(IS_SQUARES, "return n <= MOST_SQUARES;", "bestNTooSmall", "manyNTooSmall", "barsNTooSmall",
            "dueNTooSmall", "shareNTooSmall", "shareRefusedBelow", "fitsNTooSmall");
        broken(IS_SQUARES, "return n >= 0 && n <= MOST_SQUARES + 1;", "bestNTooGreat", "manyNTooGreat", "barsNTooGreat",
            "dueNTooGreat", "shareNTooGreat", "shareRefusedBelow", "fitsNTooGreat");
        broken(IS_SQUARES, "return n > 0 && n <= MOST_SQUARES;", "bestOfNoSquares", "manyOfNoneAndFive",
            "barsNotIfNoneGrantsOne", "dueOfWhatIsNotGranted", "shareOfNothing", "fitsOfNoSquares");
        broken(IS_SQUARES, "return n >= 0 && n < MOST_SQUARES;", "bestOfFiveSquares", "manyOfNoneAndFive",
            "barsForTooFewSquares", "dueOfWhatTakesNothing", "shareOfAWhole", "fitsOfFiveSquares");
        broken(IS_HANGING, "return bits < HANGINGS && Integer.bitCount(bits) <= MOST_SQUARES;",
            "worthHangingTooSmall", "lawfulHangingTooSmall", "flowHangingTooSmall");
        broken(IS_HANGING, "return bits >= 0 && bits <= HANGINGS && Integer.bitCount(bits) <= MOST_SQUARES;",
            "worthHangingTooGreat", "lawfulHangingTooGreat", "flowHangingTooGreat");
        broken(IS_HANGING, "return bits >= 0 && bits < HANGINGS && Integer.bitCount(bits) <= MOST_SQUARES + 1;",
            "worthHangingOfSix", "lawfulHangingOfSix", "flowOutsideBeforeState");
        broken(IS_HANGING, "return bits > 0 && bits < HANGINGS && Integer.bitCount(bits) <= MOST_SQUARES;",
            "worthHangingOfNone", "lawfulIfNothingIsOwed", "flowToTheSame");
        broken(IS_HANGING, "return bits >= 0 && bits < HANGINGS && Integer.bitCount(bits) < MOST_SQUARES;",
            "worthHangingOfFive", "lawfulIfNothingIsOwed", "flowToTheSame");
        broken(IS_WISH, "return number < lease.wishCount();", "wishTooSmall", "barsWishTooSmall", "dueWishTooSmall",
            "shareWishTooSmall", "shareRefusedBelow");
        broken(IS_WISH, "return number >= 0 && number <= lease.wishCount();", "wishTooGreat", "barsWishTooGreat",
            "dueWishTooGreat", "shareWishTooGreat", "shareRefusedBelow");
        broken(IS_WISH, "return number > 0 && number < lease.wishCount();", "wishFirstAndLast");
        broken(IS_WISH, "return number >= 0 && number < lease.wishCount() - 1;", "wishFirstAndLast");
    }

    private void newObjects() {
        broken("private int hangingNow;", "private int hangingNow = 1;", "newHasNoSquares");
        broken("Lease() { clear(); }", "Lease() { clear(); addWish(0, 0, 1, 1, true); }", "newHasNoWishes");
        broken("Lease() { clear(); }", "Lease() { clear(); addOwed(0, 1); }", "newOwesNothing");
        broken("private int hourNow;", "private int hourNow = 1;", "newIsAtHour0");
        broken("UNKNOWN = -1", "UNKNOWN = -6", "constants");
        broken("OUTSIDE = -2", "OUTSIDE = -6", "constants");
        broken("STATE = -3", "STATE = -6", "constants");
        broken("FULL = -4", "FULL = -6", "constants");
        broken("NONE = -9", "NONE = -6", "constants");
        broken("public NightNet() { emptySlots(); }", "public NightNet() { }", "againOfNone");
        broken("private int toldCount;", "private int toldCount = 1;", "tellNoneAtFirst", "untellOfNone");
        broken("private int toldLight;", "private int toldLight = 1;", "tellNoneAtFirst");
        broken("private long seedNow;", "private long seedNow = 1;", "seedAtFirst");
    }

    private void texts() {
        gone("letter < 0 || ", "writeLetterTooSmall");
        broken("letter < 0 || ", "letter < 1 || ", "writeLeastLetter");
        broken("letter > LAST_LETTER", "letter >= LAST_LETTER", "writeGreatestLetter");
        broken("letter > LAST_LETTER", "letter > LAST_LETTER + 1", "writeLetterTooGreat");
        broken("text.length() >= MOST_LETTERS", "text.length() >= MOST_LETTERS - 1", "writeUntilJustFull");
        broken("text.length() >= MOST_LETTERS", "text.length() > MOST_LETTERS", "writeOneMore");
        broken("MOST_LETTERS = 72", "MOST_LETTERS = 73", "writeOneMore");
        added("public int write(int letter) { ", "if (text.length() >= 72) { return FULL; } ", "writeOutsideBeforeFull");
        broken("{ return OUTSIDE; } if (text.length() >=", "{ text.add('N'); return OUTSIDE; } if (text.length() >=",
            "writeOutsideChangesNothing");
        broken("{ return FULL; } text.add(letter);", "{ text.clear(); return FULL; } text.add(letter);",
            "writeFullChangesNothing");
        broken("{ return FULL; } text.add(letter);", "{ text.letters.put(0, letter); return FULL; } text.add(letter);",
            "writeFullChangesNothing");
        broken("int length = text.length(); text.clear();", "int length = text.length() + 1; text.clear();",
            "wipeOfEmptyText", "wipeOfFullText");
        broken("int length = text.length(); text.clear();", "int length = text.length();", "wipeOfFullText");
        added("int length = text.length(); text.clear();", " hangingNow = 0;", "wipeLeavesTheLetting");
        added("int length = text.length(); text.clear();", " lease.clear();", "wipeLeavesTheLetting");
    }

    private void faults() {
        String end = "return part == BETWEEN ? NONE : text.length();";
        broken(end, "return part == BETWEEN || part == HEAD ? NONE : text.length();", "faultOfEmptyText", "lettingOfEmptyText");
        broken(end, "return part == BETWEEN && text.length() > 1 ? NONE : text.length();", "faultOfNoParts");
        broken(end, "return part == BETWEEN ? NONE : text.length() - 1;", "faultOfWhatIsNotAtItsEnd");
        broken(end, "return NONE;", "faultOfWhatIsNotAtItsEnd", "faultOfEmptyText", "lettingOfTextNotAtItsEnd");
        broken(end, "return text.length() < 67 && part == BETWEEN ? NONE : text.length();", "faultOfLongestLetting");
        broken("return letter == 'N';", "return true;", "faultOfTextWithoutN");
        broken("return letter == 'N';", "return letter == 'N' || letter == 'n';", "faultOfTextWithoutN");
        broken("lease.owedCount() < MOST_OWED; default: return false;",
            "lease.owedCount() < MOST_OWED; default: return true;", "faultOfWhatIsNoPart", "lettingOfFault");
        broken("if (!takes(text.letterAt(i))) { return i; }", "if (!takes(text.letterAt(i))) { return text.length() - 1; }",
            "faultIsTheFirst");
        broken("if (!takes(text.letterAt(i))) { return i; }", "if (!takes(text.letterAt(i))) { return i + 1; }",
            "faultIsTheFirst");
        broken("for (int i = 0; i < text.length(); i++) { if (!takes", "for (int i = 0; i < text.length() && i < 67; i++) { if (!takes",
            "faultOfFullText", "lettingOfFault");
        broken("prover = new Reader(new Lease());", "prover = new Reader(lease);", "faultLeavesTheLetting",
            "lettingRefusedChangesNothing");
        broken("figure == 1 ? ALL_CELLS", "figure >= 1 ? ALL_CELLS", "faultOfSquareFirstFigure", "faultOfWishPlace",
            "faultOfOwedPlace");
        broken("figure == 0 ? FROM_0_TO_9", "figure <= 0 ? FROM_0_TO_9", "faultOfSquareFirstFigure");
        broken("return figure >= 0 && figure <= 9 && number", "return figure >= 0 && number", "faultOfSquareBelow10",
            "faultOfWishPlace", "faultOfOwedPlace");
        broken("return figure >= 0 && figure <= 9 && number", "return figure <= 9 && number", "faultOfSquareBelow10",
            "faultOfSquareFrom10On");
        broken("return figure >= 0 && figure <= 9 && number", "return figure > 0 && figure <= 9 && number",
            "faultOfSquareBelow10", "faultOfSquareFrom10On");
        broken("return figure >= 0 && figure <= 9 && number", "return figure >= 0 && figure < 9 && number",
            "faultOfSquareBelow10");
        broken("number < CELLS && !has(gone", "number <= CELLS && !has(gone", "faultOfSquareFrom10On", "faultOfWishPlace",
            "faultOfOwedPlace");
        broken("number < CELLS && !has(gone", "number < CELLS - 1 && !has(gone", "faultOfSquareFrom10On", "faultOfWishPlace",
            "faultOfOwedPlace");
        broken("Integer.bitCount(lease.squares()) < MOST_SQUARES", "Integer.bitCount(lease.squares()) < MOST_SQUARES - 1",
            "faultOfFifthSquare");
        broken("Integer.bitCount(lease.squares()) < MOST_SQUARES", "Integer.bitCount(lease.squares()) <= MOST_SQUARES",
            "faultOfSixthSquare");
        broken("takesOfNumber(letter, lease.squares())", "takesOfNumber(letter, 0)", "faultOfTwoSquaresInOne",
            "faultOfFirstFigureOfSquare");
        broken("return (begunWith & ~gone) != 0;", "return begunWith != 0;", "faultOfFirstFigureOfSquare",
            "faultOfFirstFigureOfOwed");
        broken("return (begunWith & ~gone) != 0;", "return (begunWith & gone) == 0;", "faultWhereOneWithItIsLeft");
    }

    private void faultsOfWishesAndOwed() {
        String hour = "return figure >= 0 && figure <= 5;";
        broken(hour, "return figure >= -1 && figure <= 5;", "faultOfWishHour");
        broken(hour, "return figure > 0 && figure <= 5;", "faultOfWishHour");
        broken(hour, "return figure >= 0 && figure < 5;", "faultOfWishHour");
        broken(hour, "return figure >= 0 && figure <= 6;", "faultOfWishHour");
        String hours = "return figure >= 1 && figure <= 6;";
        broken(hours, "return figure >= 0 && figure <= 6;", "faultOfWishHours");
        broken(hours, "return figure > 1 && figure <= 6;", "faultOfWishHours");
        broken(hours, "return figure >= 1 && figure < 6;", "faultOfWishHours");
        broken(hours, "return figure >= 1 && figure <= 7;", "faultOfWishHours");
        broken(hours, "return figure >= 1 && figure <= 6 - firstHour;", "faultOfWishHours");
        String worth = "return figure >= 1 && figure <= 9;";
        broken(worth, "return figure >= 0 && figure <= 9;", "faultOfWishWorth");
        broken(worth, "return figure > 1 && figure <= 9;", "faultOfWishWorth");
        broken(worth, "return figure >= 1 && figure < 9;", "faultOfWishWorth");
        broken(worth, "return figure >= 1 && figure <= 10;", "faultOfWishWorth");
        broken("if (letter != 'd' && letter != 'l')", "if (letter < 'd' || letter > 'l')", "faultOfWishKind");
        broken("if (letter != 'd' && letter != 'l')", "if (letter != 'd')", "faultOfWishKind");
        broken("if (letter != 'd' && letter != 'l')", "if (letter != 'l')", "faultOfWishKind");
        broken("lease.wishCount() < MOST_WISHES;", "lease.wishCount() < MOST_WISHES - 1;", "faultOfFifthWish");
        broken("lease.wishCount() < MOST_WISHES;", "lease.wishCount() <= MOST_WISHES;", "faultOfSixthWish");
        String owed = "if (figure < 1 || figure > HOURS)";
        broken(owed, "if (figure < 0 || figure > HOURS)", "faultOfOwedHours");
        broken(owed, "if (figure < 2 || figure > HOURS)", "faultOfOwedHours");
        broken(owed, "if (figure < 1 || figure >= HOURS)", "faultOfOwedHours");
        broken(owed, "if (figure < 1 || figure > HOURS + 1)", "faultOfOwedHours");
        broken("lease.owedCount() < MOST_OWED;", "lease.owedCount() < MOST_OWED - 1;", "faultOfFourthOwed");
        broken("lease.owedCount() < MOST_OWED;", "lease.owedCount() <= MOST_OWED;", "faultOfFifthOwed");
        broken("takesOfNumber(letter, lease.owedPlaces())", "takesOfNumber(letter, 0)", "faultOfPlaceOwedTwice",
            "faultOfFirstFigureOfOwed");
    }

    private void lettings() {
        broken("return lease.wishCount(); } public int wish(", "return lease.wishCount() + 1; } public int wish(",
            "lettingOfNoWishes", "lettingOfFiveWishes");
        String refused = "if (prover.readThrough(text) != NONE) { return STATE; } ";
        broken(refused, "if (text.length() > 0 && prover.readThrough(text) != NONE) { return STATE; } ", "lettingOfEmptyText");
        broken(refused, "int end = prover.readThrough(text); if (end >= 0 && end < text.length()) { return STATE; } ",
            "lettingOfTextNotAtItsEnd", "lettingOfEmptyText");
        broken(refused, "if (prover.readThrough(text) == text.length()) { return STATE; } ", "lettingOfFault");
        broken(refused, "if (reader.readThrough(text) != NONE) { return STATE; } ", "lettingRefusedChangesNothing");
        for (String change : new String[] {"hourNow = 0;", "acts.clear();", "emptySlots();", "hangingNow = 0;", "text.clear();"}) {
            broken(refused, "if (prover.readThrough(text) != NONE) { " + change + " return STATE; } ",
                "lettingRefusedChangesNothing");
        }
        added(LET, "text.clear(); ", "lettingLeavesTheText");
        gone("hourNow = 0; ", "lettingIsAtHour0");
        broken(LET, "reader.readThrough(text); survey.forget(); emptySlots(); ", "lettingEmptiesTheRow");
        broken(LET, "reader.readThrough(text); survey.forget(); acts.clear(); ", "lettingLosesWhatWasKept");
        broken(LET, "reader.readThrough(text); acts.clear(); emptySlots(); ", "lettingForgetsTheWishesBefore",
            "lettingForgetsWhatWasOwed");
        added(LET, "untell(); ", "lettingLeavesWhatIsTold");
        added(LET, "seedNow = 0; ", "lettingLeavesTheSeed");
        broken("hangingNow = lease.squares();", "hangingNow |= lease.squares();", "lettingForgetsTheSquaresBefore");
        broken("squares = 0; wishCount = 0; owedPlaces = 0;", "wishCount = 0; owedPlaces = 0;", "lettingForgetsTheSquaresBefore");
        broken("squares = 0; wishCount = 0; owedPlaces = 0;", "squares = 0; owedPlaces = 0;", "lettingForgetsTheWishesBefore");
        broken("squares = 0; wishCount = 0; owedPlaces = 0;", "squares = 0; wishCount = 0;", "lettingForgetsWhatWasOwed");
        gone("owed.fill(0); ", "lettingForgetsWhatWasOwed");
        gone("lawful.fill(0); ", "lettingForgetsWhatWasOwed");
        gone("grants.fill(0); ", "lettingForgetsWhatCouldBeGranted");
    }

    private void looks() {
        broken("default: return OUTSIDE; } } public int place(", "default: return what < 0 ? 0 : OUTSIDE; } } public int place(",
            "wishWhatTooSmall");
        broken("default: return OUTSIDE; } } public int place(", "default: return what > 6 ? 0 : OUTSIDE; } } public int place(",
            "wishWhatTooGreat");
        added("public int wish(int wish, int what) { ", "if (what < 0 || what > 6) { return OUTSIDE; } ",
            "wishUnknownBeforeOutside");
        broken("return lease.wantsDark(wish) ? 1 : 0;", "return lease.wantsDark(wish) ? 0 : 1;", "wishOfLeastFigures",
            "wishOfGreatestFigures");
        broken("value = figure; return", "value = Math.min(figure, 8); return", "wishOfGreatestFigures");
        broken("span = figure; return", "span = Math.max(figure, 2); return", "wishOfLeastFigures");
        broken("hours |= 1 << (firstHours.at(wish) + i) % HOURS;", "hours |= 1 << (firstHours.at(wish) + i);", "wishHoursGoRound");
        broken("hours |= 1 << (firstHours.at(wish) + i) % HOURS;", "hours |= 1 << Math.min(firstHours.at(wish) + i, 5);",
            "wishHoursGoRound");
        broken(GRANTS, "(needs.at(wish) == 0 ? (hanging & cells.at(wish)) == 0 : (hanging & cells.at(wish)) != 0)",
            "wishForDarkInAllItsHours", "wishForAllHours", "worthOfAllHours");
        broken(GRANTS, "(needs.at(wish) != 0 ? (hanging & cells.at(wish)) == needs.at(wish) : (hanging & cells.at(wish)) != cells.at(wish))",
            "wishForLightInAllItsHours", "wishForAllHours", "worthOfAllHours");
        broken("for (int i = 0; i < span; i++) { above", "for (int i = 0; i < Math.min(span, 5); i++) { above", "wishForAllHours");
        broken("cellAbove(place, (firstHour + i) % HOURS)", "cellAbove(place, (firstHour + i) % (HOURS + 1))", "wishForHoursFarRound");
        broken("cellAbove(place, (firstHour + i) % HOURS)", "cellAbove(place, Math.min(firstHour + i, 5))",
            "wishForHoursFarRound", "wishForDarkInAllItsHours");
        broken("for (int i = 0; i < span; i++) { above", "for (int i = 0; i < Math.max(span - 1, 1); i++) { above",
            "wishForDarkInAllItsHours", "wishForLightInAllItsHours", "worthOfAllHours");
        broken("default: return OUTSIDE; } } public int dark(", "default: return what < 0 ? 0 : OUTSIDE; } } public int dark(",
            "placeWhatTooSmall");
        broken("default: return OUTSIDE; } } public int dark(", "default: return what > 3 ? 0 : OUTSIDE; } } public int dark(",
            "placeWhatTooGreat");
        added("public int place(int place, int what) { ", "if (what < 0 || what > 3) { return OUTSIDE; } ",
            "placeUnknownBeforeOutside");
        broken("case 0: return has(hangingNow, cellAbove(place, hourNow)) ? 1 : 0;",
            "case 0: return has(hangingNow, cellAbove(place, 0)) ? 1 : 0;", "placeIsDarkNow");
        broken("for (int hour = 0; hour < HOURS; hour++) { if", "for (int hour = 0; hour < HOURS - 1; hour++) { if", "placeDarkHours");
        broken("for (int hour = 0; hour < HOURS; hour++) { if", "for (int hour = 1; hour < HOURS; hour++) { if", "placeDarkHours");
        broken("return owed.at(place);", "return owed.at(place) % HOURS;", "placeOwedLeastMostAndNone");
        broken("return owed.at(place);", "return Math.max(owed.at(place), 1);", "placeOwedLeastMostAndNone", "newOwesNothing");
        broken("return place - column + (column + COLUMNS - hour) % COLUMNS;", "return (place + CELLS - hour) % CELLS;",
            "placeCellAboveGoesRound", "placeIsDarkNow", "placeDarkHours", "darkGoesRound", "tellGoesRound");
        broken("return place - column + (column + COLUMNS - hour) % COLUMNS;", "return place - column + (column + hour) % COLUMNS;",
            "placeCellAboveGoesRound", "placeIsDarkNow", "placeDarkHours", "darkGoesRound", "tellGoesRound");
        added("public int dark(int place, int hour) { ", "if (!isHour(hour)) { return OUTSIDE; } ", "darkUnknownBeforeOutside");
        broken("seen = 2 * seen + (has(hangingNow, cell) ? 1 : 0);", "seen = seen / 2 + (has(hangingNow, cell) ? 32 : 0);",
            "readFirstAndSixth");
        broken("cell = nextCell(cell, 1); } return seen;", "cell = (cell + 1) % CELLS; } return seen;", "readGoesRound");
        broken("for (int column = 0; column < COLUMNS; column++)", "for (int column = 1; column < COLUMNS; column++)",
            "readFirstAndSixth", "readNoneAndFive");
    }

    private void looksThatChange() {
        added("public int wish(int wish, int what) { ", "acts.clear(); ", "wishChangesNothing");
        added("public int place(int place, int what) { ", "acts.clear(); ", "placeChangesNothing");
        added("public int dark(int place, int hour) { ", "acts.clear(); ", "darkChangesNothing");
        added("public int read(int place) { ", "acts.clear(); ", "readChangesNothing");
        added("public int lawful(int hanging) { ", "acts.clear(); ", "lawfulChangesNothing");
        added("public int many(int n) { ", "acts.clear(); ", "manyChangesNothing");
        added("public int bars(int wish, int n) { ", "acts.clear(); ", "barsChangesNothing");
    }

    private void hangAndTake() {
        gone("if (has(hangingNow, cell)) { return STATE; } ", "hangWhereOneHangs");
        broken("squaresNow() >= MOST_SQUARES", "squaresNow() >= MOST_SQUARES - 1", "hangTheFifth", "hangWhenOneIsTakenDown");
        broken("squaresNow() >= MOST_SQUARES", "squaresNow() > MOST_SQUARES", "hangOneMore", "hangWhenOneIsTakenDown");
        added(HANG, "if (squaresNow() >= 5) { return FULL; } ", "hangUnknownBeforeFull", "hangStateBeforeFull");
        for (String change : new String[] {"acts.add(momentNow());", "hangingNow = 0;", "hourNow = 1;"}) {
            added(HANG + "if (!isCell(cell)) { ", change, "hangUnknownChangesNothing");
            added(HANG + "if (!isCell(cell)) { return UNKNOWN; } if (has(hangingNow, cell)) { ", change, "hangStateChangesNothing");
            added("public int take(int cell) { if (!isCell(cell)) { ", change, "takeUnknownChangesNothing");
        }
        broken("{ return FULL; } acts.add(momentNow());", "{ acts.add(momentNow()); return FULL; } acts.add(momentNow());",
            "hangFullChangesNothing");
        broken("{ return FULL; } acts.add(momentNow());", "{ hangingNow |= 1 << cell; return FULL; } acts.add(momentNow());",
            "hangFullChangesNothing");
        String none = "if (!has(hangingNow, cell)) { return STATE; } acts.add(momentNow());";
        broken(none, "acts.add(momentNow());", "takeWhereNoneHangs");
        broken(none, "acts.add(momentNow()); if (!has(hangingNow, cell)) { return STATE; }", "takeStateChangesNothing");
    }

    private void moves() {
        broken("by < -1 || by > 1", "by > 1", "moveByTooSmall");
        broken("by < -1 || by > 1", "by < -1", "moveByTooGreat");
        broken("by < -1 || by > 1", "by <= -1 || by > 1", "moveByEachWay");
        broken("by < -1 || by > 1", "by < -1 || by >= 1", "moveByEachWay");
        broken("by < -1 || by > 1", "by < -1 || by == 0 || by > 1", "moveByEachWay");
        broken(NEXT_IN_ROW, "return (cell + CELLS + by) % CELLS;", "moveRoundUpwards", "moveRoundDownwards",
            "moveRoundOntoAnother", "judgeRound", "stormGoesRound");
        broken(NEXT_IN_ROW, "return cell - column + Math.max(0, Math.min(column + by, 5));", "moveRoundUpwards",
            "moveRoundDownwards", "judgeRound", "stormGoesRound");
        broken("return (cell + COLUMNS) % CELLS;", "return cell + COLUMNS;", "moveToTheOtherRow", "stormToTheOtherRow");
        broken("!has(hanging, cell) || has(hanging, next)", "has(hanging, next)", "moveWhereNoneHangs", "judgeLeastRow",
            "stormWhereNoneHangs");
        broken("!has(hanging, cell) || has(hanging, next)", "!has(hanging, cell)", "moveOntoAnother", "moveRoundOntoAnother",
            "judgeTheSecond", "stormOntoAnother");
        broken("int after = afterMove(hangingNow, cell, by);",
            "if (squaresNow() >= 5) { return FULL; } int after = afterMove(hangingNow, cell, by);", "moveWhenFull");
        added(MOVE, "if (by < -1 || by >= 2) { return OUTSIDE; } ", "moveUnknownBeforeOutside");
        added(MOVE, "if (isCell(cell) && !has(hangingNow, cell)) { return STATE; } ", "moveOutsideBeforeState");
        for (String change : new String[] {"acts.add(momentNow());", "hangingNow = 0;", "hourNow = 1;"}) {
            added(MOVE + "if (!isCell(cell)) { ", change, "moveUnknownChangesNothing");
            added("if (by < -1 || by > 1) { ", change, "moveOutsideChangesNothing");
            added("if (after == NONE) { ", change, "moveStateChangesNothing");
        }
    }

    private void hoursAndUndo() {
        broken("hourNow = (hourNow + 1) % HOURS;", "hourNow = hourNow + 1;", "hourGoesRound");
        broken("hourNow = (hourNow + 1) % HOURS;", "hourNow = (hourNow + 1) % (HOURS - 1);", "hourGoesRound");
        broken("if (before == NONE) { return STATE; }", "if (before == NONE) { return 0; }", "undoOfNoActs");
        broken("if (before == NONE) { return STATE; }", "if (before == NONE) { hourNow = 0; return STATE; }",
            "undoRefusedChangesNothing");
        broken("if (size == 0) { return NONE; }", "if (size <= 1) { return NONE; }", "undoOfTheOnlyAct");
        broken("goBackTo(before);", "hangingNow = before % HANGINGS;", "undoOfEachKind", "undoRound");
        broken("goBackTo(before);", "hourNow = before / HANGINGS;", "undoOfEachKind", "undoRound");
        broken("goBackTo(before);", "hangingNow = before % HANGINGS; hourNow = Math.max(hourNow - 1, 0);", "undoRound");
        broken("MOST_ACTS = 16", "MOST_ACTS = 15", "undoOfJustFullRow");
        broken("MOST_ACTS = 16", "MOST_ACTS = 17", "undoOfOneMore", "undoOfManyMore", "undoOfFullRowThatGoesOn");
        broken("moments.put(i - 1, moments.at(i));", "moments.put(i, moments.at(i));", "undoOfOneMore", "undoOfManyMore",
            "undoOfFullRowThatGoesOn");
        broken("if (size >= MOST_ACTS) { forgetFirst(); }", "if (size >= MOST_ACTS) { clear(); }", "undoOfOneMore");
        broken("slots.put(slot, momentNow()); return", "acts.add(momentNow()); slots.put(slot, momentNow()); return",
            "undoNothingElse", "keepLeavesTheRow");
        broken("seedNow = v;", "seedNow = v; acts.add(momentNow());", "undoNothingElse");
    }

    private void judged() {
        broken(JUDGED, JUDGED.replace("n < 1 || ", ""), "judgeNTooSmall");
        broken(JUDGED, JUDGED.replace("n > 2 || ", ""), "judgeNTooGreat");
        broken(JUDGED, JUDGED.replace("n > 2", "n >= 2"), "judgeLeastRow", "judgeRowOfTwoTooGreat");
        broken(JUDGED, JUDGED.replace("row < 0 || ", ""), "judgeRowTooSmall");
        broken(JUDGED, JUDGED.replace("row < 0", "row <= 0"), "judgeLeastRow");
        broken(JUDGED, JUDGED.replace("? 999 ", "? 1000 "), "judgeRowOfOneTooGreat");
        broken(JUDGED, JUDGED.replace("? 999 ", "? 998 "), "judgeRowOfOneTooGreat");
        broken(JUDGED, JUDGED.replace(": 999999", ": 1000000"), "judgeRowOfTwoTooGreat");
        broken(JUDGED, JUDGED.replace(": 999999", ": 999998"), "judgeRowOfTwoTooGreat");
        added(JUDGED, "acts.clear(); ", "judgeChangesNothing");
        broken("|| how < 0 || how > 2", "|| how < 0", "judgeWayTooGreat");
        broken("|| how < 0 || how > 2", "|| how < 0 || how > 1", "judgeWayTooGreat", "stormToTheOtherRow");
        broken("!isCell(cell) || how < 0", "how < 0", "judgeCellTooGreat");
        broken("if (hanging == NONE) { return i; }", "if (hanging == NONE) { return n - 1; }", "judgeTheFirst");
        broken("if (hanging == NONE) { return i; }", "if (hanging == NONE) { return i + 1; }", "judgeTheFirst", "judgeTheSecond");
        broken("if (hanging == NONE) { return i; }", "if (hanging == NONE) { return 0; }", "judgeTheSecond");
        broken("hanging = afterToldMove(hanging, figures / 10", "hanging = afterToldMove(hangingNow, figures / 10",
            "judgeTheSecond", "judgeFromNowOn");
        broken("i < n - 1 ? row / 1000 : row % 1000", "i < n - 1 ? row / 999 : row % 1000", "judgeTheSecond");
        broken("i < n - 1 ? row / 1000 : row % 1000", "i < n - 1 ? row % 1000 : n == 1 ? row : row / 1000", "judgeFromNowOn",
            "judgeTheFirst");
    }

    private void worths() {
        String sum = "for (int wish = 0; wish < wishCount; wish++) { sum";
        broken(sum, "for (int wish = 1; wish < wishCount; wish++) { sum", "worthOfFirstAndLastWish");
        broken(sum, "for (int wish = 0; wish < wishCount - 1; wish++) { sum", "worthOfFirstAndLastWish", "worthHangingOfFive");
        broken("? lease.worthOf(hanging) : OUTSIDE", "? lease.allows(hanging) ? lease.worthOf(hanging) : 0 : OUTSIDE",
            "worthOfWhatIsNotLawful");
        added("public int worth(int hanging) { ", "acts.clear(); ", "worthChangesNothing");
        broken("room.fill(HOURS);", "room.fill(HOURS - 2);", "lawfulIfNothingIsOwed");
        broken("<= room.at(0)", "< room.at(0)", "lawfulIfJustHad", "lawfulIfLeastOrMostIsOwed");
        broken("<= room.at(0)", "<= room.at(0) + 1", "lawfulIfJustHad", "lawfulIfLeastOrMostIsOwed");
        broken("<= room.at(1)", "< room.at(1)", "lawfulIfJustHad");
        broken("<= room.at(1)", "<= room.at(1) + 1", "lawfulIfJustHad");
        broken("Math.min(room.at(row), HOURS - hours)", "HOURS - hours", "lawfulIfAllIsHad");
        broken("hanging & ONE_ROW", "hanging & (ONE_ROW >> 1)", "lawfulAtTheEdgesOfRows");
        broken("hanging & ONE_ROW", "hanging & (2 * ONE_ROW + 1)", "lawfulAtTheEdgesOfRows");
        broken("hanging >> COLUMNS", "hanging >> COLUMNS - 1", "lawfulAtTheEdgesOfRows");
        broken("hanging >> COLUMNS", "hanging >> COLUMNS + 1", "lawfulAtTheEdgesOfRows");
        broken("<= room.at(0) && Integer", "<= room.at(0) || Integer", "lawfulIfAllIsHad");
    }

    private void bests() {
        String refused = "if (!isSquares(n) || what < 0 || what > 2) { return OUTSIDE; } int found = survey.bestOf(n); ";
        broken(refused, refused.replace("what < 0 || ", ""), "bestWhatTooSmall");
        broken(refused, refused.replace(" || what > 2", ""), "bestWhatTooGreat");
        broken(refused, refused.replace("bestOf(n)", "bestOf(Math.max(n - 1, 0))"), "bestOfJustSoMany", "bestOfFiveSquares");
        added(refused, "hangingNow = found; ", "bestChangesNothing");
        broken("NO_WORTH = -1", "NO_WORTH = 0", "bestOfNoWishes", "bestOfNoSquares");
        broken("if (mosts.at(n - 1) >= mosts.at(n))", "if (n < 0)", "bestOfFewer", "bestOfFewestSquares");
        broken("if (mosts.at(n - 1) >= mosts.at(n))", "if (mosts.at(n - 1) > mosts.at(n))", "bestOfFewestSquares");
        broken("mosts.put(n, mosts.at(n - 1)); bests", "bests", "bestOfFarFewer");
        broken("if (worth > mosts.at(n))", "if (worth >= mosts.at(n))", "bestOfLeastBits");
        broken("isHanging(hanging) && lease.allows(hanging)", "isHanging(hanging)", "bestOfLawfulOnes", "manyLawfulOnes",
            "barsByWhatIsOwed", "dueByWhatIsOwed", "shareByFewerAndByWhatIsOwed");
        broken("? survey.lawfulOf(n) : OUTSIDE", "? survey.lawfulOf(n) + survey.lawfulOf(n - 1) : OUTSIDE", "manyOfJustN",
            "manyLawfulOnes");
        gone("grants.put(n, grants.at(n) | grants.at(n - 1)); ", "barsNotIfFewerGrantBoth", "dueByFewer",
            "shareByFewerAndByWhatIsOwed");
    }

    private void barsLossFlow() {
        added("public int bars(int wish, int n) { ", "if (!isSquares(n)) { return OUTSIDE; } ", "barsUnknownBeforeOutside");
        broken("if (other != wish && areBarred", "if (other == wish || areBarred", "barsNotItself");
        broken("areBarred(wish, other, n)) {", "areBarred(wish, other, Math.min(n + 1, 5))) {", "barsForTooFewSquares");
        gone("survey.canGrant(n, 1 << one) && ", "barsNotIfNoneGrantsOne");
        gone("survey.canGrant(n, 1 << other) && ", "barsNotIfNoneGrantsOne");
        broken("survey.canGrant(n, 1 << one) && ", "survey.canGrant(n, 1 >> one) && ", "barsNotIfNoneGrantsOne");
        broken("survey.canGrant(n, 1 << other) && ", "survey.canGrant(n, 1 >> other) && ", "barsNotIfNoneGrantsOne");
        broken("granted < WISH_SETS; granted++) { if (has(grants.at(n), granted) && (wishes",
            "granted < WISH_SETS - 1; granted++) { if (has(grants.at(n), granted) && (wishes", "barsNotIfAllAreGranted");
        broken("other < lease.wishCount(); other++", "other < lease.wishCount() - 1; other++", "barsAllOthers");
        broken("for (int other = 0;", "for (int other = 1;", "barsAllOthers");
        String loss = "return LOSS_OF_NOTHING + lease.worthOf(hangingNow) - lease.worthOf(hangingNow & ~(1 << cell));";
        String more = "lease.worthOf(hangingNow) - lease.worthOf(hangingNow & ~(1 << cell))";
        broken("if (!has(hangingNow, cell)) { return STATE; } " + loss, loss, "lossWhereNoneHangs");
        broken("LOSS_OF_NOTHING = 1000", "LOSS_OF_NOTHING = 0", "lossOfNothing", "lossLessThan0", "lossOfMost");
        broken(loss, "return LOSS_OF_NOTHING + Math.max(0, " + more + ");", "lossLessThan0");
        broken(loss, "return LOSS_OF_NOTHING + Math.min(0, " + more + ");", "lossOfMost", "lossOfWhatIsNotLawful");
        broken(loss, "if (!lease.allows(hangingNow)) { return 1000; } " + loss, "lossOfWhatIsNotLawful");
        broken(loss, "acts.add(momentNow()); " + loss, "lossChangesNothing");
        added("public int loss(int cell) { ", "acts.clear(); ", "lossChangesNothing");
        String asMany = "if (Integer.bitCount(hanging) != squaresNow()) { return STATE; }";
        added("public int flow(int hanging) { ", asMany, "flowOutsideBeforeState");
        broken(asMany, "if (Integer.bitCount(hanging) > squaresNow()) { return STATE; }", "flowToOneFewer");
        broken(asMany, "if (Integer.bitCount(hanging) < squaresNow()) { return STATE; }", "flowToOneMore");
        broken("return paths.fewestMoves(hangingNow, hanging);", "return paths.fewestMoves(hangingNow, hanging) + 1;",
            "flowToTheSame");
        broken("return paths.fewestMoves(hangingNow, hanging);", "hangingNow = hanging; return 0;", "flowChangesNothing");
        broken("Math.min(columns, COLUMNS - columns) + rows", "columns + rows", "flowGoesRound");
        broken("Math.abs(one / COLUMNS - other / COLUMNS)", "Math.abs(one / (COLUMNS + 1) - other / COLUMNS)", "flowToTheSame");
        broken("Math.abs(one / COLUMNS - other / COLUMNS)", "Math.abs(one / COLUMNS - other / (COLUMNS - 1))", "flowToTheSame");
        broken("Math.min(columns, COLUMNS - columns) + rows", "Math.min(columns, COLUMNS - columns)", "flowOfTheFarthest");
        broken("Math.min(columns, COLUMNS - columns) + rows", "Math.max(Math.min(columns, COLUMNS - columns), rows)",
            "flowOfTheFarthest");
        broken("if (has(reached, goal)) {", "if (goal == Integer.bitCount(reached) - 1 && has(reached, goal)) {",
            "flowOfAnySquare");
    }

    private void prices() {
        added("public int due(int wish, int n) { ", "if (!isSquares(n)) { return OUTSIDE; } ", "dueUnknownBeforeOutside");
        added("public int due(int wish, int n) { ", "acts.clear(); ", "dueChangesNothing");
        broken("if (!has(granted, wish)) { return 0; }", "if (!has(granted, wish)) { return NONE; }", "dueOfWhatIsNotGranted");
        broken("return survey.mostWorth(n, others) - lease.sumOf(granted & others);", "return survey.mostWorth(n, others);",
            "dueOfWhatTakesNothing");
        broken("lease.allWishes() & ~(1 << wish)", "lease.allWishes() & ~(1 >> wish)", "dueOfTheLast");
        broken("survey.mostWorth(n, others)", "survey.mostWorth(Math.max(n - 1, 0), others)", "dueByHowManyMayHang");
        broken("survey.mostWorth(n, others)", "survey.mostWorth(5, others)", "dueByHowManyMayHang");
        added("public int share(int wish, int n, boolean upper) { ", "if (!isSquares(n)) { return OUTSIDE; } ",
            "shareUnknownBeforeOutside");
        added("public int share(int wish, int n, boolean upper) { ", "if (!isWish(wish) && !upper) { return 1; } ",
            "shareRefusedBelow");
        added("public int share(int wish, int n, boolean upper) { ", "acts.clear(); ", "shareChangesNothing");
        broken("int common = commonDivisor(above, below);", "int common = above == 0 ? 1 : commonDivisor(above, below);",
            "shareOfNothing");
        broken("int common = commonDivisor(above, below);", "int common = 1;", "shareInLeastTerms", "windInLeastTerms");
        broken("int asked = upper ? above : below;", "int asked = upper ? below : above;", "shareOfAWhole", "windOf0", "windOf10");
        broken("int orders = factorial(ahead) * factorial(wishes - 1 - ahead);", "int orders = 1;", "shareOverAllOrders");
    }

    private void told() {
        broken("toldCount >= MOST_TOLD", "toldCount >= MOST_TOLD - 1", "tellTheSixth");
        broken("toldCount >= MOST_TOLD", "toldCount > MOST_TOLD", "tellOneMore");
        added(TELL, "if (!isHour(hour)) { return OUTSIDE; } ", "tellUnknownBeforeOutside");
        added(TELL, "if (toldCount >= 6) { return FULL; } ", "tellUnknownBeforeFull", "tellOutsideBeforeFull");
        for (String change : new String[] {"toldCount++;", "toldDark |= 1;", "toldLight |= 8;", "acts.add(momentNow());"}) {
            added(TELL + "if (!isCell(place)) { ", change, "tellUnknownChangesNothing");
            added(TELL + "if (!isCell(place)) { return UNKNOWN; } if (!isHour(hour)) { ", change, "tellOutsideChangesNothing");
        }
        broken("{ return FULL; } int cell = 1 << cellAbove(place, hour);",
            "{ toldDark |= 1 << cellAbove(place, hour); return FULL; } int cell = 1 << cellAbove(place, hour);",
            "tellFullChangesNothing");
        broken("{ return FULL; } int cell = 1 << cellAbove(place, hour);",
            "{ toldLight |= 1 << cellAbove(place, hour); return FULL; } int cell = 1 << cellAbove(place, hour);",
            "tellFullChangesNothing");
        broken("int cell = 1 << cellAbove(place, hour);", "int cell = 1 << cellAbove(place, (hour + hourNow) % HOURS);",
            "tellGoesRound");
        broken("int count = toldCount;", "int count = Math.max(toldCount, 1);", "untellOfNone", "untellOfSix");
        broken("toldDark = 0; toldLight = 0; toldCount = 0;", "toldLight = 0; toldCount = 0;", "untellOfSix");
        broken("toldDark = 0; toldLight = 0; toldCount = 0;", "toldDark = 0; toldCount = 0;", "untellOfSix");
        broken("toldDark = 0; toldLight = 0; toldCount = 0;", "toldDark = 0; toldLight = 0;", "untellOfSix");
    }

    private void fits() {
        String refused = "if (!isSquares(n) || what < 0 || what > 2) { return OUTSIDE; } int found = 0; ";
        broken(refused, refused.replace("what < 0 || ", ""), "fitsWhatTooSmall");
        broken(refused, refused.replace(" || what > 2", ""), "fitsWhatTooGreat");
        added(refused, "acts.clear(); ", "fitsChangesNothing");
        broken("Integer.bitCount(hanging) == n && agrees", "Integer.bitCount(hanging) <= n && agrees", "fitsOfFiveSquares",
            "fitsInAllAndInNone");
        broken("Integer.bitCount(hanging) == n && agrees", "Integer.bitCount(hanging) == n && lease.allows(hanging) && agrees",
            "fitsOfWhatIsNotLawful");
        gone("if (found == 0) { return NONE; } ", "fitsNoneOfTooFewSquares", "fitsNoneOfSixDarks", "fitsNoneOfWhatIsAgainstItself");
        broken("(hanging & toldDark) == toldDark", "(toldDark == 0 || (hanging & toldDark) != 0)", "fitsNoneOfSixDarks",
            "fitsOfFiveSquares");
        broken("&& (hanging & toldLight) == 0", "", "fitsNoneOfWhatIsAgainstItself", "fitsInAllAndInNone");
        broken("what == 1 ? inAll : ALL_CELLS & ~inSome", "what == 2 ? inAll : ALL_CELLS & ~inSome", "fitsInAllAndInNone");
        broken("what == 1 ? inAll : ALL_CELLS & ~inSome", "what == 1 ? inAll : ~inSome", "fitsInAllAndInNone", "fitsOfNoSquares");
    }

    private void winds() {
        gone("x < 0 || ", "windTooWeak", "windRefusedBelow");
        broken("x > TENTHS", "x > TENTHS + 1", "windTooStrong", "windRefusedBelow");
        broken("x < 0 || ", "x <= 0 || ", "windOf0");
        broken("x > TENTHS", "x >= TENTHS", "windOf10");
        broken("{ return OUTSIDE; } int squares = squaresNow();", "{ return upper ? OUTSIDE : 1; } int squares = squaresNow();",
            "windRefusedBelow");
        added("{ return OUTSIDE; } int squares = squaresNow();", " acts.clear();", "windChangesNothing");
        broken("power(TENTHS - x, stay) * power(x, squares - stay)", "power(x, stay) * power(TENTHS - x, squares - stay)",
            "windOf0", "windOf10", "windOf1And9", "windOnFiveSquares");
        broken("power(TENTHS - x, stay) * power(x, squares - stay)", "power(TENTHS - x, stay)", "windOf1And9", "windInLeastTerms");
        broken("if ((left & ~hangingNow) == 0) {", "if (left != 0 && (left & ~hangingNow) == 0) {", "windOnNoSquares", "windOf10");
        broken("return inLeastTerms(sum, power(TENTHS, squares), upper);",
            "return inLeastTerms(sum, power(TENTHS, Math.min(squares, 4)), upper);", "windOnFiveSquares");
        broken("* lease.worthOf(left);", "* (lease.allows(left) ? lease.worthOf(left) : 0);", "windOnWhatIsNotLawful");
    }

    private void storms() {
        broken("seedNow = v;", "seedNow = (int) v;", "seedLeastAndGreatest");
        gone("m < 1 || ", "stormTooShort");
        broken("m > MOST_GUSTS", "m > MOST_GUSTS + 1", "stormTooLong");
        broken("m < 1 || ", "m < 2 || ", "stormOfOne");
        broken("m > MOST_GUSTS", "m >= MOST_GUSTS", "stormOfForty");
        broken("gust < m;", "gust < m - 1;", "stormOfOne", "stormOfForty");
        broken("gust < m;", "gust <= m;", "stormOfOne", "stormOfForty");
        broken("seedNow * SEED_TIMES + SEED_AND", "(seedNow * SEED_TIMES + SEED_AND) & Long.MAX_VALUE", "stormSeedWraps",
            "stormOfSeedBelow0");
        broken("seedNow >>> 33", "seedNow >> 33", "stormOfSeedBelow0", "stormSeedWraps");
        broken("seedNow >>> 33", "seedNow >>> 32 & 0x7fffffff", "stormSeedWraps");
        broken("hanging = after == NONE ? hanging : after; } return hanging;",
            "hanging = after == NONE ? hanging : after; } hangingNow = hanging; return hanging;", "stormLeavesAllElse");
        added("if (m < 1 || m > MOST_GUSTS) { ", "seedNow++; ", "stormRefusedChangesNothing");
        added("if (m < 1 || m > MOST_GUSTS) { ", "hangingNow = 0; ", "stormRefusedChangesNothing");
    }

    private void slots() {
        String keep = "public int keep(int slot) { if (slot < 0 || slot >= SLOTS) { ";
        String put = "slots.put(slot, momentNow()); return squaresNow();";
        broken(keep, "public int keep(int slot) { if (slot >= SLOTS) { ", "keepTooSmall");
        broken(keep, "public int keep(int slot) { if (slot < 0 || slot > SLOTS) { ", "keepTooGreat");
        broken(keep, "public int keep(int slot) { if (slot < 0 || slot >= SLOTS - 1) { ", "keepInBoth");
        broken(put, "slots.put(0, momentNow()); return squaresNow();", "keepInBoth");
        broken(put, "slots.put(slot, momentNow()); return slot;", "keepNoneAndFive");
        broken(put, "if (slots.at(slot) == NONE) { slots.put(slot, momentNow()); } return squaresNow();", "keepOverWhatWasKept");
        broken(put, "acts.clear(); " + put, "keepLeavesTheRow");
        added(keep, "acts.clear(); ", "keepRefusedChangesNothing");
        added(keep, "slots.put(0, momentNow()); ", "keepRefusedChangesNothing");
        added(keep, "slots.put(1, momentNow()); ", "keepRefusedChangesNothing");
        String again = "public int again(int slot) { if (slot < 0 || slot >= SLOTS) { ";
        broken(again, "public int again(int slot) { if (slot >= SLOTS) { ", "againTooSmall");
        broken(again, "public int again(int slot) { if (slot < 0 || slot > SLOTS) { ", "againTooGreat");
        broken("if (kept == NONE) { return STATE; }", "if (kept == NONE) { return 0; }", "againOfNone");
        broken("if (kept == NONE) { return STATE; }", "if (kept <= 0) { return STATE; }", "againOfNoSquares");
        broken("hangingNow = moment % HANGINGS;", "hangingNow |= moment % HANGINGS;", "againOfFiveSquares", "againOfNoSquares",
            "undoOfEachKind");
        broken("hourNow = moment / HANGINGS;", "hourNow = Math.min(moment / HANGINGS, 4);", "againAtTheLastHour", "undoRound");
        broken("goBackTo(kept); acts.clear();", "goBackTo(kept);", "againEmptiesTheRow");
        broken("goBackTo(kept); acts.clear();", "goBackTo(kept); slots.put(slot, NONE); acts.clear();", "againTwice");
        for (String change : new String[] {"text.clear();", "untell();", "seedNow = 0;", "lease.clear();"}) {
            broken("goBackTo(kept); acts.clear();", "goBackTo(kept); acts.clear(); " + change, "againLeavesAllElse");
        }
        added(again, "acts.clear(); ", "againUnknownChangesNothing");
        added(again, "hangingNow = 0; ", "againUnknownChangesNothing");
        added("if (kept == NONE) { ", "acts.clear(); ", "againStateChangesNothing");
        added("if (kept == NONE) { ", "hourNow = 0; ", "againStateChangesNothing");
    }

    private void counts() {
        String other = "return lease.grantedBy(hangingNow); default: return OUTSIDE;";
        broken(other, "return lease.grantedBy(hangingNow); default: return what < 0 ? 0 : OUTSIDE;", "countTooSmall");
        broken(other, "return lease.grantedBy(hangingNow); default: return what > 8 ? 0 : OUTSIDE;", "countTooGreat");
        broken(other, "return lease.worthOf(hangingNow); default: return OUTSIDE;", "countOfWishesGranted");
        broken("case 6: return acts.size();", "case 6: return Math.min(acts.size(), 15);", "countOfAllThatIsFull");
        broken("case 1: return lease.wishCount();", "case 1: return Math.min(lease.wishCount(), 4);", "countOfAllThatIsFull");
        added("public int count(int what) { ", "if (what < 0 || what > 8) { acts.clear(); } ", "countChangesNothing");
        broken("public int hour() {", "private int calls; public int hour() { calls++; if (calls > 510) { return 0; }",
            "the512thCall");
        broken("public int share(int wish, int n, boolean upper) {",
            "private int calls; public int share(int wish, int n, boolean upper) { calls++; if (calls > 109) { return -1; }",
            "the512thCallOfMuchWork");
    }
}
