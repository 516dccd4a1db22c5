import java.util.Arrays;

/** Promise 22 from every hanging to every other: the fewest moves, found by making them on the object itself. */
public final class FlowTest {
    private static final Due DUE = new Due("FlowTest");

    public static void main(String[] args) {
        int[][] next = new int[4096][];
        for (int hanging = 0; hanging < 4096; hanging++) {
            if (Integer.bitCount(hanging) <= 5) {
                next[hanging] = afterOneMove(hanging);
            }
        }
        for (int start = 0; start < 4096; start++) {
            // By turning the net, one start of six is like another: that with the least bits is asked.
            if (next[start] != null && isLeastOfItsTurns(start)) {
                compare(start, moves(start, next));
            }
        }
        DUE.close();
    }

    private static NightNet hung(int hanging) {
        NightNet net = new NightNet();
        for (int cell = 0; cell < 12; cell++) {
            if ((hanging >> cell & 1) == 1) {
                net.hang(cell);
            }
        }
        return net;
    }

    private static int[] afterOneMove(int hanging) {
        int[] found = new int[15];
        int count = 0;
        for (int cell = 0; cell < 12; cell++) {
            for (int by = -1; by <= 1; by++) {
                NightNet net = hung(hanging);
                if (net.move(cell, by) >= 0) {
                    found[count++] = net.count(5);
                }
            }
        }
        return Arrays.copyOf(found, count);
    }

    private static boolean isLeastOfItsTurns(int hanging) {
        int turned = hanging;
        for (int by = 1; by < 6; by++) {
            int low = turned & 63;
            int high = turned >> 6;
            turned = (low << 1 & 63 | low >> 5) | (high << 1 & 63 | high >> 5) << 6;
            if (turned < hanging) {
                return false;
            }
        }
        return true;
    }

    private static int[] moves(int start, int[][] next) {
        int[] moves = new int[4096];
        Arrays.fill(moves, -3);
        int[] queue = new int[4096];
        int last = 1;
        queue[0] = start;
        moves[start] = 0;
        for (int first = 0; first < last; first++) {
            for (int after : next[queue[first]]) {
                if (moves[after] < 0) {
                    moves[after] = moves[queue[first]] + 1;
                    queue[last++] = after;
                }
            }
        }
        return moves;
    }

    private static void compare(int start, int[] moves) {
        NightNet net = hung(start);
        int calls = 5;
        for (int goal = 0; goal < 4096; goal++) {
            if (Integer.bitCount(goal) == Integer.bitCount(start)) {
                if (calls++ == 512) {
                    net = hung(start);
                    calls = 6;
                }
                DUE.same("flow from " + start + " to " + goal, net.flow(goal), moves[goal]);
            }
        }
    }
}
