/** Breaks of whole sentences and promises, seen by the tests of terms and of promises. */
final class SentenceBreaks extends Breaks {
    private static final String WRONG_HANGING = "if (!isHanging(hanging)) { return OUTSIDE; } ";

    SentenceBreaks() {
        newAndText();
        looks();
        acts();
        hangings();
        prices();
        told();
        winds();
        slots();
        refusalsAndFractions();
        worldAndText();
        squaresAndActs();
        termsOfHangings();
        termsOfPrices();
        termsOfToldAndWinds();
    }

    private void newAndText() {
        broken("private int hangingNow;", "private int hangingNow = 1;", "promise1");
        broken("Lease() { clear(); }", "Lease() { clear(); addWish(0, 0, 1, 1, true); }", "promise1");
        broken("text.add(letter);", "text.add('N');", "promise2");
        broken("text.length() >= MOST_LETTERS", "text.length() > MOST_LETTERS", "promise2");
        gone("if (letter < 0 || letter > LAST_LETTER) { return OUTSIDE; } ", "promise2");
        broken("text.clear(); return length;", "return length;", "promise3");
        broken("text.clear(); return length;", "text.clear(); return 0;", "promise3");
        broken("return prover.readThrough(text);", "return Math.max(prover.readThrough(text), -1);", "promise4");
        broken("if (!takes(text.letterAt(i))) { return i; }", "if (!takes(text.letterAt(i))) { return i + 1; }", "promise4");
        broken("? NONE : text.length();", "? NONE : 0;", "promise4");
        gone("hangingNow = lease.squares(); ", "promise5");
        gone("hangingNow = lease.squares(); hourNow = 0; ", "promise5");
        broken("survey.forget(); acts.clear(); emptySlots();", "survey.forget(); emptySlots();", "promise5");
        broken("survey.forget(); acts.clear(); emptySlots();", "survey.forget(); acts.clear();", "promise5");
        broken("survey.forget(); acts.clear();", "survey.forget(); untell(); acts.clear();", "promise5");
        broken("survey.forget(); acts.clear();", "survey.forget(); seed(0); acts.clear();", "promise5");
        broken("survey.forget(); acts.clear();", "survey.forget(); wipe(); acts.clear();", "promise5");
        broken("if (prover.readThrough(text) != NONE) { return STATE; }",
            "if (prover.readThrough(text) != NONE) { return prover.readThrough(text); }", "promise5");
    }

    private void looks() {
        broken("case 1: return lease.firstHourOf(wish); case 2: return lease.spanOf(wish);",
            "case 1: return lease.spanOf(wish); case 2: return lease.firstHourOf(wish);", "promise6");
        broken("has(lease.grantedBy(hangingNow), wish)", "has(lease.grantedBy(lease.squares()), wish)", "promise6");
        broken("case 6: return lease.hoursOf(wish); default: return OUTSIDE;", "default: return lease.hoursOf(wish);", "promise6");
        broken("case 0: return has(hangingNow, cellAbove(place, hourNow))", "case 0: return has(hangingNow, place)", "promise7");
        broken("case 2: return lease.owedTo(place);", "case 2: return HOURS - lease.owedTo(place);", "promise7");
        broken("case 3: return cellAbove(place, hourNow); default: return OUTSIDE;",
            "default: return cellAbove(place, hourNow);", "promise7");
        broken("return has(hangingNow, cellAbove(place, hour)) ? 1 : 0;",
            "return has(hangingNow, cellAbove(place, hourNow)) ? 1 : 0;", "promise8");
        broken("return has(hangingNow, cellAbove(place, hour)) ? 1 : 0;",
            "return has(hangingNow, cellAbove(place, hour)) ? 0 : 1;", "promise8");
        broken("int cell = cellAbove(place, hourNow); for", "int cell = place; for", "promise9");
        broken("cell = nextCell(cell, 1); } return seen;", "cell = nextCell(cell, -1); } return seen;", "promise9");
    }

    private void acts() {
        broken("hangingNow |= 1 << cell;", "hangingNow = 1 << cell;", "promise10");
        gone("if (has(hangingNow, cell)) { return STATE; } ", "promise10");
        gone("if (squaresNow() >= MOST_SQUARES) { return FULL; } ", "promise10");
        broken("hangingNow &= ~(1 << cell);", "hangingNow = 0;", "promise11");
        gone("if (!has(hangingNow, cell)) { return STATE; } acts.add(momentNow()); ", "promise11");
        broken("hangingNow = after; return nextCell(cell, by);", "hangingNow = after; return cell;", "promise12");
        broken("hangingNow = after; return", "hangingNow |= after; return", "promise12");
        gone("if (by < -1 || by > 1) { return OUTSIDE; } ", "promise12");
        gone("hangingNow = after; ", "promise12");
        broken("hourNow = (hourNow + 1) % HOURS;", "hourNow = (hourNow + 5) % HOURS;", "promise13");
        broken("public int hour() { acts.add(momentNow());", "public int hour() {", "promise13");
        gone("goBackTo(before); ", "promise14");
        broken("if (before == NONE) { return STATE; }", "if (before == NONE) { return NONE; }", "promise14");
        broken("how == 0 ? 1 : how == 1 ? -1 : 0", "how == 0 ? -1 : how == 1 ? 1 : 0", "promise15");
        broken("i < n - 1 ? row / 1000 : row % 1000", "i == 0 ? row % 1000 : row / 1000", "promise15");
        broken("hanging = afterToldMove(hanging, figures / 10", "hanging = hangingNow = afterToldMove(hanging, figures / 10",
            "promise15");
    }

    private void hangings() {
        broken("lease.worthOf(hanging) : OUTSIDE", "lease.worthOf(hangingNow) : OUTSIDE", "promise16");
        broken("return isHanging(hanging) ? lease.worthOf(hanging) : OUTSIDE;", "return lease.worthOf(hanging & ALL_CELLS);",
            "promise16");
        broken("return lease.allows(hanging) ? 1 : 0;", "return lease.allows(hangingNow) ? 1 : 0;", "promise17");
        broken(WRONG_HANGING + "return lease.allows(hanging) ? 1 : 0;", "return lease.allows(hanging) ? 1 : 0;", "promise17");
        broken("return what == 0 ? lease.worthOf(found)", "return what != 0 ? lease.worthOf(found)", "promise18");
        broken("int found = survey.bestOf(n); if (found == NONE) { return NONE; } if (what == 1)",
            "int found = hangingNow; if (what == 1)", "promise18");
        broken("? survey.lawfulOf(n) : OUTSIDE", "? survey.lawfulOf(n) + survey.lawfulOf(n - 1) : OUTSIDE", "promise19");
        broken("return isSquares(n) ? survey.lawfulOf(n) : OUTSIDE;", "return survey.lawfulOf(n);", "promise19");
        broken("barred |= 1 << other;", "barred |= 1 << wish;", "promise20");
        gone("&& !survey.canGrant(n, 1 << one | 1 << other)", "promise20");
        broken("LOSS_OF_NOTHING = 1000", "LOSS_OF_NOTHING = 100", "promise21");
        broken("lease.worthOf(hangingNow & ~(1 << cell))", "lease.worthOf(1 << cell)", "promise21");
        broken("return paths.fewestMoves(hangingNow, hanging);", "return Integer.bitCount(hangingNow ^ hanging) / 2;",
            "promise22");
        broken(WRONG_HANGING + "if (Integer", "if (Integer", "promise22");
        gone("if (Integer.bitCount(hanging) != squaresNow()) { return STATE; } ", "promise22");
    }

    private void prices() {
        broken("survey.mostWorth(n, others) - lease.sumOf(granted & others)", "survey.mostWorth(n, others)", "promise23");
        broken("if (!has(granted, wish)) { return 0; }", "if (!has(granted, wish)) { return NONE; }", "promise23");
        broken("int orders = factorial(ahead) * factorial(wishes - 1 - ahead);", "int orders = 1;", "promise24");
        broken("return inLeastTerms(gained, factorial(wishes), upper);", "return upper ? gained : factorial(wishes);", "promise24");
    }

    private void told() {
        broken("if (dark) {", "if (!dark) {", "promise25");
        broken("toldCount++; return toldCount;", "toldCount++; return squaresNow();", "promise25");
        gone("if (toldCount >= MOST_TOLD) { return FULL; } ", "promise25");
        broken("toldLight = 0; toldCount = 0; return count;", "toldLight = 0; toldCount = 0; return toldCount;", "promise26");
        broken("toldDark = 0; toldLight = 0; toldCount = 0;", "toldCount = 0;", "promise26");
        gone("if (found == 0) { return NONE; } ", "promise27");
        broken("what == 1 ? inAll : ALL_CELLS & ~inSome", "what == 1 ? inAll : inSome", "promise27");
        broken("Integer.bitCount(hanging) == n && agrees", "Integer.bitCount(hanging) <= n && agrees", "promise27");
    }

    private void winds() {
        broken("power(TENTHS - x, stay) * power(x, squares - stay)", "power(x, stay) * power(TENTHS - x, squares - stay)",
            "promise28");
        gone("if (x < 0 || x > TENTHS) { return OUTSIDE; } ", "promise28");
        gone("seedNow = v; ", "promise29");
        broken("seedNow = v; return before;", "seedNow = v; return v;", "promise29");
        broken("drawn % CELLS, drawn / CELLS % 3", "drawn / 3 % CELLS, drawn % 3", "promise30");
        broken("hanging = after == NONE ? hanging : after; } return hanging;",
            "hanging = after == NONE ? hanging : after; } hangingNow = hanging; return hanging;", "promise30");
        gone("if (m < 1 || m > MOST_GUSTS) { return OUTSIDE; } ", "promise30");
    }

    private void slots() {
        gone("slots.put(slot, momentNow()); ", "promise31");
        broken("slots.put(slot, momentNow());", "slots.put(0, momentNow());", "promise31");
        broken("goBackTo(kept); acts.clear();", "acts.clear();", "promise32");
        broken("goBackTo(kept); acts.clear();", "goBackTo(kept);", "promise32");
        broken("if (kept == NONE) { return STATE; }", "if (kept == NONE) { return NONE; }", "promise32");
        broken("case 5: return hangingNow;", "case 5: return lease.squares();", "promise33");
        broken("case 6: return acts.size(); case 7: return toldCount;", "case 6: return toldCount; case 7: return acts.size();",
            "promise33");
        broken("case 8: return lease.grantedBy(hangingNow); default: return OUTSIDE;",
            "default: return lease.grantedBy(hangingNow);", "promise33");
    }

    private void refusalsAndFractions() {
        broken("UNKNOWN = -1", "UNKNOWN = -6", "unknown");
        added("public int share(int wish, int n, boolean upper) { ", "if (!isSquares(n)) { return OUTSIDE; } ", "unknown");
        broken("OUTSIDE = -2", "OUTSIDE = -6", "outside");
        broken("x > TENTHS) { return OUTSIDE; }", "x > TENTHS) { return UNKNOWN; }", "outside");
        broken("STATE = -3", "STATE = -6", "stateAndFull");
        broken("FULL = -4", "FULL = -6", "stateAndFull");
        broken("NONE = -9", "NONE = -5", "noneIsLessThanAllRefusals");
        broken("int common = commonDivisor(above, below);", "int common = 1;", "fractions");
        broken("int asked = upper ? above : below;", "int asked = upper ? below : above;", "fractions");
    }

    private void worldAndText() {
        broken("ROWS = 2", "ROWS = 3", "theWorld");
        broken("return cell - column + (column + COLUMNS + by) % COLUMNS;", "return (cell + CELLS + by) % CELLS;", "theWorld");
        broken("return place - column + (column + COLUMNS - hour) % COLUMNS;",
            "return place - column + (column + hour) % COLUMNS;", "darkHourByHour");
        broken("return place - column + (column + COLUMNS - hour) % COLUMNS;", "return (place + CELLS - hour) % CELLS;",
            "darkHourByHour");
        broken("number = 10 * figure;", "number = figure;", "partsOfSquares");
        broken("squares |= 1 << cell;", "squares = 1 << cell;", "partsOfSquares");
        broken("return letter == 'N';", "return true;", "partsOfSquares");
        broken("lease.addWish(number, firstHour, span, value, letter == 'd');",
            "lease.addWish(number, firstHour, span, value, letter == 'l');", "partsOfWishes");
        broken("lease.addWish(number, firstHour, span, value, letter == 'd');",
            "lease.addWish(number, firstHour, value, span, letter == 'd');", "partsOfWishes");
        broken("lease.wishCount() < MOST_WISHES", "lease.wishCount() <= MOST_WISHES", "partsOfWishes");
        broken("owed.put(place, hours);", "owed.put(row, hours);", "partsOfWhatIsOwed");
        broken("takesOfNumber(letter, lease.owedPlaces())", "takesOfNumber(letter, 0)", "partsOfWhatIsOwed");
        broken("return (begunWith & ~gone) != 0;", "return begunWith != 0;", "faults");
        broken("private int hourNow;", "private int hourNow = 1;", "faults");
    }

    private void squaresAndActs() {
        broken("!has(hanging, cell) || has(hanging, next)", "!has(hanging, cell)", "hungTakenMoved");
        gone("if (has(hangingNow, cell)) { return STATE; } ", "hungTakenMoved");
        broken("return (cell + COLUMNS) % CELLS;", "return cell;", "hungTakenMoved");
        broken("MOST_ACTS = 16", "MOST_ACTS = 17", "actsInARow");
        broken("goBackTo(before);", "hangingNow = before % HANGINGS;", "actsInARow");
        broken("goBackTo(before);", "hourNow = before / HANGINGS;", "actsInARow");
    }

    private void termsOfHangings() {
        broken("(hanging & cells.at(wish)) == needs.at(wish)", "(hanging & cells.at(wish)) != 0 == (needs.at(wish) != 0)",
            "hangings");
        broken("return lease.allows(hanging) ? 1 : 0;", "return 1;", "hangings");
        broken("public int worth(int hanging) {", "public int worth(int hanging) { hangingNow = Math.max(hanging, 0);", "hangings");
        broken("if (worth > mosts.at(n))", "if (worth >= mosts.at(n))", "best");
        broken("if (mosts.at(n - 1) >= mosts.at(n))", "if (mosts.at(n - 1) > mosts.at(n))", "best");
        broken("isHanging(hanging) && lease.allows(hanging)", "lease.allows(hanging) && hanging > 0", "best");
        gone("survey.canGrant(n, 1 << one) && ", "bars");
        gone("survey.canGrant(n, 1 << other) && ", "bars");
        gone(" && !survey.canGrant(n, 1 << one | 1 << other)", "bars");
        broken("LOSS_OF_NOTHING + lease.worthOf(hangingNow) -", "LOSS_OF_NOTHING + lease.worthOf(1 << cell) -", "loss");
        broken("LOSS_OF_NOTHING = 1000", "LOSS_OF_NOTHING = 0", "loss");
        broken("Math.min(columns, COLUMNS - columns) + rows", "columns + rows", "flow");
        broken("Math.min(columns, COLUMNS - columns) + rows", "Math.min(columns, COLUMNS - columns)", "flow");
        broken("if (has(reached, goal)) {", "if (goal == Integer.bitCount(reached) - 1 && has(reached, goal)) {", "flow");
    }

    private void termsOfPrices() {
        broken("survey.mostWorth(n, others) - lease.sumOf(granted & others)", "lease.valueOf(wish)", "due");
        broken("int others = lease.allWishes() & ~(1 << wish);", "int others = lease.allWishes();", "due");
        broken("isHanging(hanging) && lease.allows(hanging)", "lease.allows(hanging) && hanging > 0", "due");
        broken("int orders = factorial(ahead) * factorial(wishes - 1 - ahead);", "int orders = factorial(ahead);", "share");
        broken("survey.mostWorth(n, come | 1 << wish) - survey.mostWorth(n, come)", "survey.mostWorth(n, 1 << wish)", "share");
    }

    private void termsOfToldAndWinds() {
        broken("(hanging & toldDark) == toldDark", "(toldDark == 0 || (hanging & toldDark) != 0)", "toldAndFits");
        gone(" && (hanging & toldLight) == 0", "toldAndFits");
        broken("Integer.bitCount(hanging) == n && agrees", "Integer.bitCount(hanging) == n && lease.allows(hanging) && agrees",
            "toldAndFits");
        broken("int cell = cellAbove(place, hourNow); for", "int cell = place; for", "read");
        broken("seen = 2 * seen + (has(hangingNow, cell) ? 1 : 0);", "seen = seen / 2 + (has(hangingNow, cell) ? 32 : 0);", "read");
        broken("* lease.worthOf(left);", "* (lease.allows(left) ? lease.worthOf(left) : 0);", "wind");
        broken("power(TENTHS - x, stay) * power(x, squares - stay)", "power(TENTHS - x, stay)", "wind");
        broken("seedNow >>> 33", "seedNow >>> 32 & 0x7fffffff", "storm");
        broken("drawn / CELLS % 3", "drawn % 3", "storm");
        broken("gust < m;", "gust < 1;", "storm");
        broken("hourNow = moment / HANGINGS;", "", "slots");
        broken("goBackTo(kept); acts.clear();", "goBackTo(kept);", "slots");
        broken("slots.put(slot, momentNow());", "slots.put(1, momentNow());", "slots");
    }
}
