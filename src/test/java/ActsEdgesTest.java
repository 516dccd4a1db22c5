import java.io.IOException;

/** The edges that the document names in promises 10 to 15 and in the terms that they use. */
public final class ActsEdgesTest {
    public static void main(String[] args) throws IOException {
        Sentences.run(ActsEdgesTest.class);
    }

    /** One act in the row, a slot kept, five squares: 0, 1, 2, 6 and 11. */
    private static NightNet full() {
        NightNet net = Due.let("NH00H01H02H11W00012d");
        net.keep(1);
        net.hang(6);
        return net;
    }

    // ---- promise 10: hang

    @Sentence("and as many CELLS of THE NET")
    static void hangTooSmall(Due due) {
        due.same("hang(-1)", new NightNet().hang(-1), -1);
        due.same("hang(least)", new NightNet().hang(Integer.MIN_VALUE), -1);
    }

    @Sentence("and as many CELLS of THE NET")
    static void hangTooGreat(Due due) {
        due.same("hang(12)", new NightNet().hang(12), -1);
        due.same("hang(32)", new NightNet().hang(32), -1);
    }

    @Sentence("and as many CELLS of THE NET")
    static void hangFirstAndLast(Due due) {
        NightNet net = new NightNet();
        due.same("hang(0)", net.hang(0), 1);
        due.same("hang(11)", net.hang(11), 2);
        due.same("hanging", net.count(5), 1 + 2048);
    }

    @Sentence("STATE: one hangs there; FULL: 5.")
    static void hangWhereOneHangs(Due due) {
        due.same("hang(0)", Due.let("NH00").hang(0), -3);
        due.same("hang(11)", Due.let("NH11").hang(11), -3);
    }

    @Sentence("A SQUARE is HUNG in a CELL that has none (5 at most hang)")
    static void hangTheFifth(Due due) {
        NightNet net = Due.let("NH00H01H02H03");
        due.same("hang(4)", net.hang(4), 5);
        due.same("squares", net.count(3), 5);
    }

    @Sentence("STATE: one hangs there; FULL: 5.")
    static void hangOneMore(Due due) {
        due.same("hang(5)", Due.let("NH00H01H02H03H04").hang(5), -4);
        due.same("hang(3)", full().hang(3), -4);
    }

    @Sentence("(5 at most hang)")
    static void hangWhenOneIsTakenDown(Due due) {
        NightNet net = full();
        net.take(6);
        due.same("hang(7)", net.hang(7), 5);
        due.same("hang(6)", net.hang(6), -4);
    }

    @Sentence("REFUSALS, of several the first that a call names")
    static void hangUnknownBeforeFull(Due due) {
        due.same("hang(12) when full", full().hang(12), -1);
        due.same("hang(-1) when full", full().hang(-1), -1);
    }

    @Sentence("REFUSALS, of several the first that a call names")
    static void hangStateBeforeFull(Due due) {
        due.same("hang(6) when full", full().hang(6), -3);
    }

    @Sentence("What is refused changes nothing.")
    static void hangUnknownChangesNothing(Due due) {
        Twins.refused(due, "hang(12)", -1, () -> Due.let("NH03"), net -> net.hang(12));
        Twins.refused(due, "hang(-1)", -1, () -> Due.let("NH03"), net -> net.hang(-1));
    }

    @Sentence("What is refused changes nothing.")
    static void hangStateChangesNothing(Due due) {
        Twins.refused(due, "hang(3)", -3, () -> Due.let("NH03"), net -> net.hang(3));
    }

    @Sentence("What is refused changes nothing.")
    static void hangFullChangesNothing(Due due) {
        Twins.refused(due, "hang(3)", -4, ActsEdgesTest::full, net -> net.hang(3));
    }

    // ---- promise 11: take

    @Sentence("and as many CELLS of THE NET")
    static void takeTooSmall(Due due) {
        due.same("take(-1)", Due.let("NH00H11").take(-1), -1);
    }

    @Sentence("and as many CELLS of THE NET")
    static void takeTooGreat(Due due) {
        due.same("take(12)", Due.let("NH00H11").take(12), -1);
        due.same("take(32)", Due.let("NH00H11").take(32), -1);
    }

    @Sentence("and as many CELLS of THE NET")
    static void takeFirstAndLast(Due due) {
        NightNet net = Due.let("NH00H11");
        due.same("take(0)", net.take(0), 1);
        due.same("take(11)", net.take(11), 0);
        due.same("hanging", net.count(5), 0);
    }

    @Sentence("STATE: none hangs there.")
    static void takeWhereNoneHangs(Due due) {
        due.same("take(0) of none", new NightNet().take(0), -3);
        NightNet net = Due.let("NH00");
        due.same("take(1)", net.take(1), -3);
        net.take(0);
        due.same("take(0) again", net.take(0), -3);
    }

    @Sentence("What is refused changes nothing.")
    static void takeUnknownChangesNothing(Due due) {
        Twins.refused(due, "take(12)", -1, ActsEdgesTest::full, net -> net.take(12));
        Twins.refused(due, "take(-1)", -1, ActsEdgesTest::full, net -> net.take(-1));
    }

    @Sentence("What is refused changes nothing.")
    static void takeStateChangesNothing(Due due) {
        Twins.refused(due, "take(3)", -3, ActsEdgesTest::full, net -> net.take(3));
    }

    // ---- promise 12: move

    @Sentence("and as many CELLS of THE NET")
    static void moveCellTooSmall(Due due) {
        due.same("move(-1, 0)", Due.let("NH05").move(-1, 0), -1);
    }

    @Sentence("and as many CELLS of THE NET")
    static void moveCellTooGreat(Due due) {
        due.same("move(12, 0)", Due.let("NH00").move(12, 0), -1);
        due.same("move(32, 1)", Due.let("NH00").move(32, 1), -1);
    }

    @Sentence("OUTSIDE: by (-1, 0, 1)")
    static void moveByTooSmall(Due due) {
        due.same("move(3, -2)", Due.let("NH03").move(3, -2), -2);
        due.same("move(3, least)", Due.let("NH03").move(3, Integer.MIN_VALUE), -2);
    }

    @Sentence("OUTSIDE: by (-1, 0, 1)")
    static void moveByTooGreat(Due due) {
        due.same("move(3, 2)", Due.let("NH03").move(3, 2), -2);
        due.same("move(3, most)", Due.let("NH03").move(3, Integer.MAX_VALUE), -2);
    }

    @Sentence("OUTSIDE: by (-1, 0, 1)")
    static void moveByEachWay(Due due) {
        due.same("move(3, -1)", Due.let("NH03").move(3, -1), 2);
        due.same("move(3, 0)", Due.let("NH03").move(3, 0), 9);
        due.same("move(3, 1)", Due.let("NH03").move(3, 1), 4);
    }

    @Sentence("(on in its row, by 1 or -1, round; or to the other row, by 0)")
    static void moveRoundUpwards(Due due) {
        due.same("move(5, 1)", Due.let("NH05").move(5, 1), 0);
        due.same("move(11, 1)", Due.let("NH11").move(11, 1), 6);
        NightNet net = Due.let("NH11");
        net.move(11, 1);
        due.same("hanging", net.count(5), 64);
    }

    @Sentence("(on in its row, by 1 or -1, round; or to the other row, by 0)")
    static void moveRoundDownwards(Due due) {
        due.same("move(0, -1)", Due.let("NH00").move(0, -1), 5);
        due.same("move(6, -1)", Due.let("NH06").move(6, -1), 11);
        NightNet net = Due.let("NH06");
        net.move(6, -1);
        due.same("hanging", net.count(5), 2048);
    }

    @Sentence("(on in its row, by 1 or -1, round; or to the other row, by 0)")
    static void moveToTheOtherRow(Due due) {
        due.same("move(0, 0)", Due.let("NH00").move(0, 0), 6);
        due.same("move(5, 0)", Due.let("NH05").move(5, 0), 11);
        due.same("move(6, 0)", Due.let("NH06").move(6, 0), 0);
        due.same("move(11, 0)", Due.let("NH11").move(11, 0), 5);
    }

    @Sentence("STATE: none hangs there, or one does where it would come.")
    static void moveWhereNoneHangs(Due due) {
        due.same("move(0, 1)", new NightNet().move(0, 1), -3);
        due.same("move(1, -1)", Due.let("NH00").move(1, -1), -3);
        due.same("move(2, 0)", Due.let("NH00").move(2, 0), -3);
    }

    @Sentence("STATE: none hangs there, or one does where it would come.")
    static void moveOntoAnother(Due due) {
        due.same("move(2, 1)", Due.let("NH02H03").move(2, 1), -3);
        due.same("move(3, -1)", Due.let("NH02H03").move(3, -1), -3);
        due.same("move(2, 0)", Due.let("NH02H08").move(2, 0), -3);
        due.same("move(8, 0)", Due.let("NH02H08").move(8, 0), -3);
    }

    @Sentence("STATE: none hangs there, or one does where it would come.")
    static void moveRoundOntoAnother(Due due) {
        due.same("move(5, 1)", Due.let("NH00H05").move(5, 1), -3);
        due.same("move(0, -1)", Due.let("NH00H05").move(0, -1), -3);
        due.same("move(11, 1)", Due.let("NH06H11").move(11, 1), -3);
        due.same("move(5, 1), the other row is free", Due.let("NH05H06").move(5, 1), 0);
    }

    @Sentence("5 at most hang")
    static void moveWhenFull(Due due) {
        NightNet net = full();
        due.same("move(2, 1)", net.move(2, 1), 3);
        due.same("squares", net.count(3), 5);
    }

    @Sentence("REFUSALS, of several the first that a call names")
    static void moveUnknownBeforeOutside(Due due) {
        due.same("move(12, 2)", full().move(12, 2), -1);
        due.same("move(-1, -2)", full().move(-1, -2), -1);
    }

    @Sentence("REFUSALS, of several the first that a call names")
    static void moveOutsideBeforeState(Due due) {
        due.same("move(3, 2), none there", full().move(3, 2), -2);
        due.same("move(0, -2)", full().move(0, -2), -2);
    }

    @Sentence("What is refused changes nothing.")
    static void moveUnknownChangesNothing(Due due) {
        Twins.refused(due, "move(12, 0)", -1, ActsEdgesTest::full, net -> net.move(12, 0));
        Twins.refused(due, "move(-1, 1)", -1, ActsEdgesTest::full, net -> net.move(-1, 1));
    }

    @Sentence("What is refused changes nothing.")
    static void moveOutsideChangesNothing(Due due) {
        Twins.refused(due, "move(2, 2)", -2, ActsEdgesTest::full, net -> net.move(2, 2));
        Twins.refused(due, "move(2, -2)", -2, ActsEdgesTest::full, net -> net.move(2, -2));
    }

    @Sentence("What is refused changes nothing.")
    static void moveStateChangesNothing(Due due) {
        Twins.refused(due, "move(3, 1), none there", -3, ActsEdgesTest::full, net -> net.move(3, 1));
        Twins.refused(due, "move(1, 1), onto another", -3, ActsEdgesTest::full, net -> net.move(1, 1));
        Twins.refused(due, "move(6, -1), onto another", -3, ActsEdgesTest::full, net -> net.move(6, -1));
        Twins.refused(due, "move(0, 0), onto another", -3, ActsEdgesTest::full, net -> net.move(0, 0));
    }

    // ---- promise 13: hour

    @Sentence("AN HOUR goes by: THE HOUR is the next one.")
    static void hourGoesRound(Due due) {
        NightNet net = new NightNet();
        int[] want = {1, 2, 3, 4, 5, 0, 1};
        for (int hour : want) {
            due.same("hour()", net.hour(), hour);
            due.same("count(4)", net.count(4), hour);
        }
    }

    // ---- promise 14: undo

    @Sentence("STATE: there is none.")
    static void undoOfNoActs(Due due) {
        due.same("undo() of a new one", new NightNet().undo(), -3);
        due.same("undo() of a letting", Due.let("NH00").undo(), -3);
    }

    @Sentence("The last ACT is undone: how many are left.")
    static void undoOfTheOnlyAct(Due due) {
        NightNet net = new NightNet();
        net.hang(0);
        due.same("undo()", net.undo(), 0);
        due.same("acts", net.count(6), 0);
        due.same("undo() again", net.undo(), -3);
    }

    @Sentence("the last one can be undone.")
    static void undoOfEachKind(Due due) {
        NightNet net = Due.let("NH00H11");
        net.hang(3);
        net.take(0);
        net.move(11, 1);
        net.hour();
        due.same("undo of an hour", net.undo(), 3);
        due.same("hour", net.count(4), 0);
        due.same("hanging", net.count(5), 8 + 64);
        due.same("undo of a move", net.undo(), 2);
        due.same("hanging", net.count(5), 8 + 2048);
        due.same("undo of a taking", net.undo(), 1);
        due.same("hanging", net.count(5), 1 + 8 + 2048);
        due.same("undo of a hanging", net.undo(), 0);
        due.same("hanging", net.count(5), 1 + 2048);
    }

    @Sentence("the last one can be undone.")
    static void undoRound(Due due) {
        NightNet net = Due.let("NH00H05H06");
        for (int hour = 0; hour < 6; hour++) {
            net.hour();
        }
        net.undo();
        due.same("the hour before 0", net.count(4), 5);
        net.move(6, -1);
        net.undo();
        due.same("6 by -1 and back", net.count(5), 1 + 32 + 64);
        net.take(0);
        net.move(5, 1);
        net.undo();
        due.same("5 by 1 and back", net.count(5), 32 + 64);
    }

    @Sentence("(HUNG, TAKEN, MOVED, HOURS) are a row (16 at most;")
    static void undoOfJustFullRow(Due due) {
        NightNet net = new NightNet();
        net.hang(0);
        for (int hour = 0; hour < 15; hour++) {
            net.hour();
        }
        due.same("acts", net.count(6), 16);
        for (int left = 15; left >= 0; left--) {
            due.same("undo()", net.undo(), left);
        }
        due.same("the first one is undone, too", net.count(5), 0);
        due.same("hour", net.count(4), 0);
        due.same("undo() then", net.undo(), -3);
    }

    @Sentence("of more the first one is forgotten")
    static void undoOfOneMore(Due due) {
        NightNet net = new NightNet();
        net.hang(0);
        for (int hour = 0; hour < 16; hour++) {
            net.hour();
        }
        due.same("acts", net.count(6), 16);
        for (int left = 15; left >= 0; left--) {
            due.same("undo()", net.undo(), left);
        }
        due.same("undo() then", net.undo(), -3);
        due.same("the first one is not undone", net.count(5), 1);
        due.same("but all the others", net.count(4), 0);
    }

    @Sentence("of more the first one is forgotten")
    static void undoOfManyMore(Due due) {
        NightNet net = new NightNet();
        for (int cell = 0; cell < 40; cell++) {
            net.hang(cell % 12);
            net.take(cell % 12);
        }
        net.hang(3);
        for (int left = 15; left >= 0; left--) {
            due.same("undo()", net.undo(), left);
            int cell = (32 + (left + 1) / 2) % 12;
            due.same("hanging with " + left + " left", net.count(5), left % 2 == 1 ? 0 : 1 << cell);
        }
        due.same("undo() then", net.undo(), -3);
    }

    @Sentence("of more the first one is forgotten")
    static void undoOfFullRowThatGoesOn(Due due) {
        NightNet net = Due.let("NH00");
        for (int hour = 0; hour < 17; hour++) {
            net.hour();
        }
        net.undo();
        net.undo();
        net.move(0, -1);
        due.same("acts", net.count(6), 15);
        net.move(5, 0);
        due.same("acts", net.count(6), 16);
        net.take(11);
        due.same("acts", net.count(6), 16);
        for (int left = 15; left > 13; left--) {
            net.undo();
        }
        due.same("hanging after two", net.count(5), 32);
        due.same("undo()", net.undo(), 13);
        due.same("hanging after three", net.count(5), 1);
        due.same("hour", net.count(4), 3);
        for (int left = 12; left >= 0; left--) {
            due.same("undo()", net.undo(), left);
        }
        due.same("two hours are forgotten", net.count(4), 2);
    }

    @Sentence("(HUNG, TAKEN, MOVED, HOURS) are a row")
    static void undoNothingElse(Due due) {
        NightNet net = Due.let("NH00");
        net.hang(1);
        net.write('N');
        net.tell(0, 0, true);
        net.untell();
        net.seed(4);
        net.storm(3);
        net.judge(1, 0);
        net.keep(0);
        net.wipe();
        due.same("acts", net.count(6), 1);
        due.same("undo()", net.undo(), 0);
        due.same("hanging", net.count(5), 1);
        due.same("what was kept stays", net.again(0), 2);
    }

    @Sentence("What is refused changes nothing.")
    static void undoRefusedChangesNothing(Due due) {
        Twins.refused(due, "undo()", -3, () -> Due.let("NH00H07W00011d"), NightNet::undo);
        Twins.refused(due, "undo()", -3, ActsEdgesTest::goneOn, NightNet::undo);
    }

    /** One gone on from a slot, at another hour than the first. */
    private static NightNet goneOn() {
        NightNet net = full();
        net.hour();
        net.keep(0);
        net.hour();
        net.again(0);
        return net;
    }

    // ---- promise 15: judge

    @Sentence("OUTSIDE: n, row (0 or more, 3 n figures at most).")
    static void judgeNTooSmall(Due due) {
        due.same("judge(0, 0)", full().judge(0, 0), -2);
        due.same("judge(-1, 0)", full().judge(-1, 0), -2);
    }

    @Sentence("Of n MOVES (1 to 2) from now on")
    static void judgeNTooGreat(Due due) {
        due.same("judge(3, 2)", full().judge(3, 2), -2);
        due.same("judge(most, 2)", full().judge(Integer.MAX_VALUE, 2), -2);
    }

    @Sentence("row (0 or more, 3 n figures at most).")
    static void judgeRowTooSmall(Due due) {
        due.same("judge(1, -1)", full().judge(1, -1), -2);
        due.same("judge(2, -1)", full().judge(2, -1), -2);
    }

    @Sentence("row (0 or more, 3 n figures at most).")
    static void judgeRowOfOneTooGreat(Due due) {
        due.same("judge(1, 999)", full().judge(1, 999), 0);
        due.same("judge(1, 1000)", full().judge(1, 1000), -2);
    }

    @Sentence("row (0 or more, 3 n figures at most).")
    static void judgeRowOfTwoTooGreat(Due due) {
        due.same("judge(2, 999999)", full().judge(2, 999999), 0);
        due.same("judge(2, 1000000)", full().judge(2, 1000000), -2);
        due.same("judge(2, most)", full().judge(2, Integer.MAX_VALUE), -2);
    }

    @Sentence("(two for the CELL, one for how: 0 by 1, 1 by -1, 2 by 0; 0s ahead, where there are fewer)")
    static void judgeLeastRow(Due due) {
        due.same("000: 0 by 1", Due.let("NH00").judge(1, 0), -9);
        due.same("000, none there", Due.let("NH05").judge(1, 0), 0);
        due.same("000 010: 0 by 1, 1 by 1", Due.let("NH00").judge(2, 10), -9);
    }

    @Sentence("(there is no such figure, too)")
    static void judgeWayTooGreat(Due due) {
        due.same("002", Due.let("NH00").judge(1, 2), -9);
        due.same("003", Due.let("NH00").judge(1, 3), 0);
        due.same("000 013", Due.let("NH00").judge(2, 13), 1);
        due.same("009", Due.let("NH00").judge(1, 9), 0);
    }

    @Sentence("(there is no such figure, too)")
    static void judgeCellTooGreat(Due due) {
        due.same("110", Due.let("NH11").judge(1, 110), -9);
        due.same("120", Due.let("NH00").judge(1, 120), 0);
        due.same("320", Due.let("NH00").judge(1, 320), 0);
        due.same("990", Due.let("NH00").judge(1, 990), 0);
        due.same("000 120", Due.let("NH00").judge(2, 120), 1);
    }

    @Sentence("the place (from 0) of the first that can not be")
    static void judgeTheFirst(Due due) {
        due.same("010 000: the first", Due.let("NH00").judge(2, 10000), 0);
        due.same("010 020: both, so the first", Due.let("NH00").judge(2, 10020), 0);
    }

    @Sentence("the place (from 0) of the first that can not be")
    static void judgeTheSecond(Due due) {
        due.same("000 000: none is there any more", Due.let("NH00").judge(2, 0), 1);
        due.same("002 020: onto another", Due.let("NH00H02H03").judge(2, 2020), 1);
        due.same("002 999: no such figures", Due.let("NH00").judge(2, 2999), 1);
    }

    @Sentence("NONE: all can.")
    static void judgeFromNowOn(Due due) {
        due.same("022 030: 3 by 1, where it is free", Due.let("NH02H03").judge(2, 22030), -9);
        due.same("030 020: 2 comes where 3 was", Due.let("NH02H03").judge(2, 30020), -9);
        due.same("020 030: not the other way round", Due.let("NH02H03").judge(2, 20030), 0);
        NightNet net = Due.let("NH02");
        net.move(2, 1);
        due.same("030, as it is now", net.judge(1, 30), -9);
    }

    @Sentence("(on in its row, by 1 or -1, round; or to the other row, by 0)")
    static void judgeRound(Due due) {
        due.same("050: 5 to 0", Due.let("NH05").judge(1, 50), -9);
        due.same("050 000: 5 to 0 to 1", Due.let("NH05").judge(2, 50000), -9);
        due.same("061 111: 6 to 11 to 10", Due.let("NH06").judge(2, 61111), -9);
        due.same("050, onto 0", Due.let("NH00H05").judge(1, 50), 0);
    }

    @Sentence("Nothing is promised beyond the answers and state changes described above")
    static void judgeChangesNothing(Due due) {
        Twins.same(due, "judge(1, 20)", ActsEdgesTest::full, net -> net.judge(1, 20));
        Twins.same(due, "judge(2, 20030)", ActsEdgesTest::full, net -> net.judge(2, 20030));
        Twins.refused(due, "judge(3, 0)", -2, ActsEdgesTest::full, net -> net.judge(3, 0));
        Twins.refused(due, "judge(1, 1000)", -2, ActsEdgesTest::full, net -> net.judge(1, 1000));
    }
}
