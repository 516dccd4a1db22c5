/** Promises 10 to 15: squares are hung, taken down and moved, hours go by, all is undone, told moves are judged. */
public final class ActsTest {
    private static final Due DUE = new Due("ActsTest");

    public static void main(String[] args) {
        hang();
        take();
        move();
        hour();
        undo();
        undoOfManyActs();
        judge();
        judgeRefused();
        DUE.close();
    }

    private static void hang() {
        NightNet net = Due.let("NH03");
        DUE.same("hang(0)", net.hang(0), 2);
        DUE.same("hang(11)", net.hang(11), 3);
        DUE.same("hang(11) again", net.hang(11), -3);
        DUE.same("hang(3), where the letting hangs one", net.hang(3), -3);
        DUE.same("hang(6)", net.hang(6), 4);
        DUE.same("hang(5)", net.hang(5), 5);
        DUE.same("hang(1) of six", net.hang(1), -4);
        DUE.same("hang(5) when five hang there", net.hang(5), -3);
        DUE.same("hang(12) when five hang", net.hang(12), -1);
        DUE.same("hang(-1)", net.hang(-1), -1);
        DUE.same("hanging", net.count(5), 1 + 8 + 32 + 64 + 2048);
        DUE.same("acts", net.count(6), 4);
        DUE.same("11 is dark", net.place(11, 0), 1);
        net.take(0);
        DUE.same("hang(1) when four hang", net.hang(1), 5);
    }

    private static void take() {
        NightNet net = Due.let("NH03H08H11");
        DUE.same("take(8)", net.take(8), 2);
        DUE.same("take(8) again", net.take(8), -3);
        DUE.same("take(0)", net.take(0), -3);
        DUE.same("take(12)", net.take(12), -1);
        DUE.same("take(-1)", net.take(-1), -1);
        DUE.same("hanging", net.count(5), 8 + 2048);
        DUE.same("take(3)", net.take(3), 1);
        DUE.same("take(11)", net.take(11), 0);
        DUE.same("acts", net.count(6), 3);
        DUE.same("hanging of none", net.count(5), 0);
    }

    private static void move() {
        NightNet net = Due.let("NH00H05H06");
        DUE.same("move(5, 1) onto 0", net.move(5, 1), -3);
        DUE.same("move(0, -1) onto 5", net.move(0, -1), -3);
        DUE.same("move(0, 0) onto 6", net.move(0, 0), -3);
        DUE.same("move(6, 0) onto 0", net.move(6, 0), -3);
        DUE.same("move(1, 1), none there", net.move(1, 1), -3);
        DUE.same("no acts", net.count(6), 0);
        DUE.same("move(6, -1) round", net.move(6, -1), 11);
        DUE.same("move(0, 1)", net.move(0, 1), 1);
        DUE.same("move(5, 1) round", net.move(5, 1), 0);
        DUE.same("move(0, -1) round", net.move(0, -1), 5);
        DUE.same("move(5, 0) onto 11", net.move(5, 0), -3);
        DUE.same("move(11, 1) round", net.move(11, 1), 6);
        DUE.same("move(5, 0)", net.move(5, 0), 11);
        DUE.same("move(11, 0)", net.move(11, 0), 5);
        DUE.same("move(6, 1)", net.move(6, 1), 7);
        DUE.same("hanging", net.count(5), 2 + 32 + 128);
        DUE.same("acts", net.count(6), 8);
        DUE.same("squares", net.count(3), 3);
        DUE.same("move(12, 0)", net.move(12, 0), -1);
        DUE.same("move(-1, 5)", net.move(-1, 5), -1);
        DUE.same("move(1, 2)", net.move(1, 2), -2);
        DUE.same("move(1, -2)", net.move(1, -2), -2);
        DUE.same("move(0, 2), none there", net.move(0, 2), -2);
        DUE.same("hanging after what was refused", net.count(5), 2 + 32 + 128);
    }

    private static void hour() {
        NightNet net = Due.let("NH00");
        for (int hour = 1; hour <= 13; hour++) {
            DUE.same("hour()", net.hour(), hour % 6);
            DUE.same("THE HOUR", net.count(4), hour % 6);
            DUE.same("acts", net.count(6), hour);
            DUE.same("the square goes round", net.place(hour % 6, 0), 1);
        }
    }

    private static void undo() {
        NightNet net = Due.let("NH00H01");
        net.hang(7);
        net.take(0);
        net.move(1, -1);
        net.hour();
        net.move(7, 0);
        DUE.same("hanging", net.count(5), 3);
        DUE.same("undo of a move by 0", net.undo(), 4);
        DUE.same("hanging then", net.count(5), 1 + 128);
        DUE.same("hour still", net.count(4), 1);
        DUE.same("undo of an hour", net.undo(), 3);
        DUE.same("hour before", net.count(4), 0);
        DUE.same("hanging still", net.count(5), 1 + 128);
        DUE.same("undo of a move by -1", net.undo(), 2);
        DUE.same("hanging of that", net.count(5), 2 + 128);
        DUE.same("undo of a taking", net.undo(), 1);
        DUE.same("hanging with it", net.count(5), 3 + 128);
        DUE.same("undo of a hanging", net.undo(), 0);
        DUE.same("hanging at first", net.count(5), 3);
        DUE.same("undo of nothing", net.undo(), -3);
        net.hang(9);
        DUE.same("acts after undoing", net.count(6), 1);
        DUE.same("undo again", net.undo(), 0);
        for (int i = 0; i < 6; i++) {
            net.hour();
        }
        net.undo();
        DUE.same("the hour before 0 is 5", net.count(4), 5);
    }

    private static void undoOfManyActs() {
        NightNet net = new NightNet();
        net.hang(0);
        for (int i = 0; i < 15; i++) {
            net.hour();
        }
        DUE.same("sixteen acts", net.count(6), 16);
        DUE.same("the seventeenth", net.hour(), 4);
        DUE.same("acts stay sixteen", net.count(6), 16);
        net.take(0);
        DUE.same("acts stay sixteen again", net.count(6), 16);
        for (int left = 15; left >= 0; left--) {
            DUE.same("undo()", net.undo(), left);
        }
        DUE.same("the first two are forgotten", net.undo(), -3);
        DUE.same("so the square hangs", net.count(5), 1);
        DUE.same("and an hour has gone by", net.count(4), 1);
    }

    private static void judge() {
        NightNet net = Due.let("NH00H05H07");
        DUE.same("000: 0 to 1", net.judge(1, 0), -9);
        DUE.same("001: 0 to 5", net.judge(1, 1), 0);
        DUE.same("002: 0 to 6", net.judge(1, 2), -9);
        DUE.same("003: no such way", net.judge(1, 3), 0);
        DUE.same("009: no such way", net.judge(1, 9), 0);
        DUE.same("010: none at 1", net.judge(1, 10), 0);
        DUE.same("071: 7 to 6", net.judge(1, 71), -9);
        DUE.same("072: 7 to 1", net.judge(1, 72), -9);
        DUE.same("050: 5 to 0", net.judge(1, 50), 0);
        DUE.same("052: 5 to 11", net.judge(1, 52), -9);
        DUE.same("120: no such cell", net.judge(1, 120), 0);
        DUE.same("999: no such figures", net.judge(1, 999), 0);
        DUE.same("000 050: 0 to 1, 5 to 0", net.judge(2, 50), -9);
        DUE.same("000 000: none is at 0 then", net.judge(2, 0), 1);
        DUE.same("000 010: 0 to 1 to 2", net.judge(2, 10), -9);
        DUE.same("000 072: 7 to 1, where one is then", net.judge(2, 72), 1);
        DUE.same("072 000: likewise", net.judge(2, 72000), 1);
        DUE.same("052 110: 5 to 11 to 6", net.judge(2, 52110), -9);
        DUE.same("052 112: 5 to 11 to 5", net.judge(2, 52112), -9);
        DUE.same("001 000: the first", net.judge(2, 1000), 0);
        DUE.same("999 000: the first", net.judge(2, 999000), 0);
        DUE.same("002 999: the second", net.judge(2, 2999), 1);
        DUE.same("002 003: the second, no such way", net.judge(2, 2003), 1);
        DUE.same("hanging as it was", net.count(5), 1 + 32 + 128);
        DUE.same("no acts", net.count(6), 0);
        net.hour();
        DUE.same("cells are meant, whatever the hour", net.judge(1, 71), -9);
        NightNet last = Due.let("NH11");
        DUE.same("110: 11 to 6", last.judge(1, 110), -9);
        DUE.same("112: 11 to 5", last.judge(1, 112), -9);
        DUE.same("113: no such way", last.judge(1, 113), 0);
    }

    private static void judgeRefused() {
        NightNet net = Due.let("NH00");
        DUE.same("judge(0, 0)", net.judge(0, 0), -2);
        DUE.same("judge(3, 0)", net.judge(3, 0), -2);
        DUE.same("judge(-1, 0)", net.judge(-1, 0), -2);
        DUE.same("judge(1, -1)", net.judge(1, -1), -2);
        DUE.same("judge(2, -1)", net.judge(2, -1), -2);
        DUE.same("judge(1, 1000)", net.judge(1, 1000), -2);
        DUE.same("judge(2, 1000000)", net.judge(2, 1000000), -2);
        DUE.same("judge(2, 999999)", net.judge(2, 999999), 0);
        DUE.same("judge(1, most)", net.judge(1, Integer.MAX_VALUE), -2);
        DUE.same("judge(most, 0)", net.judge(Integer.MAX_VALUE, 0), -2);
    }
}
