/** Groups whose orders are known from elsewhere. */
public final class KnownGroupsTest {
    private static final Due due = new Due();

    public static void main(String[] args) {
        mathieu24();
        mathieu12();
        alternating();
        boxes();
        smallCube();
        productOfThree();
        elementaryAbelian();
        eachOfTenMovesEnlarges();
        due.end();
    }

    private static int inverse(int a, int prime) {
        for (int b = 1; b < prime; b++) {
            if (a * b % prime == 1) {
                return b;
            }
        }
        return 0;
    }

    /** M24 on the numbers modulo 23, and 23 for infinity. */
    private static void mathieu24() {
        boolean[] square = new boolean[23];
        for (int k = 1; k < 23; k++) {
            square[k * k % 23] = true;
        }
        int[] step = new int[24];
        int[] turn = new int[24];
        int[] third = new int[24];
        for (int p = 0; p < 23; p++) {
            step[p] = (p + 1) % 23;
            turn[p] = p == 0 ? 23 : (23 - inverse(p, 23)) % 23;
            int cube = p * p % 23 * p % 23;
            third[p] = square[p] || p == 0 ? cube * inverse(9, 23) % 23 : cube * 9 % 23;
        }
        step[23] = 23;
        turn[23] = 0;
        third[23] = 23;
        CycleGroups x = new CycleGroups(24);
        Due.makeMove(x, step);
        Due.makeMove(x, turn);
        due.sameText("L2(23)", Due.orderText(x), "6072");
        Due.makeMove(x, third);
        due.sameText("M24", Due.orderText(x), "244823040");
        due.sameText("M23", Due.stabiliserText(x, 17), "10200960");
        due.same("run() of M24", x.run(), 7);
        int[] spreads = {24, 23, 22, 21, 20};
        for (int i = 0; i < spreads.length; i++) {
            due.same("spread(" + i + ") of M24", x.spread(i), spreads[i]);
        }
        due.same("block(4, 19) of M24", x.block(4, 19), 24);
        x.state();
        x.scramble(0, 3, 1000);
        due.same("member of M24", x.member(0), 1);
        due.same("parity in M24", x.parity(0), 0);
        x.exchange(0, 5, 9);
        due.same("member of M24, exchanged", x.member(0), 0);
    }

    private static void mathieu12() {
        CycleGroups x = new CycleGroups(12);
        Due.makeCycles(x, new int[] {0, 1, 2, 3, 4, 5, 6, 7, 8, 9, 10});
        Due.makeCycles(x, new int[] {2, 6, 10, 7}, new int[] {3, 9, 4, 5});
        due.sameText("M11", Due.orderText(x), "7920");
        due.same("orbit of the place that M11 leaves", x.orbit(11), 11);
        Due.makeCycles(x, new int[] {0, 11}, new int[] {1, 10}, new int[] {2, 5}, new int[] {3, 7},
            new int[] {4, 8}, new int[] {6, 9});
        due.sameText("M12", Due.orderText(x), "95040");
        due.sameText("M11 in M12", Due.stabiliserText(x, 3), "7920");
    }

    private static void alternating() {
        CycleGroups x = new CycleGroups(24);
        int[] most = new int[23];
        for (int p = 0; p < 23; p++) {
            most[p] = p + 1;
        }
        Due.makeCycles(x, most);
        Due.makeCycles(x, new int[] {0, 1, 2});
        due.sameText("A24", Due.orderText(x), "310224200866619719680000");
        due.same("run() of A24", x.run(), 22);
        x.state();
        x.exchange(0, 3, 4);
        due.same("an odd state fails at last", x.level(0), 22);
        x.exchange(0, 17, 9);
        due.same("an even state", x.level(0), 24);
    }

    /** Six boxes of four places: any order in each box, and any order of the boxes. */
    private static void boxes() {
        CycleGroups x = new CycleGroups(24);
        Due.makeCycles(x, new int[] {0, 6, 12, 18});
        Due.makeCycles(x, new int[] {0, 6});
        Due.makeCycles(x, new int[] {0, 1, 2, 3, 4, 5}, new int[] {6, 7, 8, 9, 10, 11},
            new int[] {12, 13, 14, 15, 16, 17}, new int[] {18, 19, 20, 21, 22, 23});
        Due.makeCycles(x, new int[] {0, 1}, new int[] {6, 7}, new int[] {12, 13}, new int[] {18, 19});
        due.sameText("S4 wr S6", Due.orderText(x), "137594142720");
        due.same("block in a box", x.block(2, 14), 4);
        due.same("block over boxes", x.block(2, 3), 24);
        x.state();
        x.exchange(0, 5, 23);
        due.same("exchange in a box", x.member(0), 1);
        x.exchange(0, 5, 22);
        due.same("exchange over boxes", x.member(0), 0);
    }

    /** The 24 stickers of the cube of 2 x 2 x 2, all six sides turning. */
    private static void smallCube() {
        CycleGroups x = new CycleGroups(24);
        // Sides U L F R B D, four stickers each, clockwise from the upper left one.
        turnSide(x, 0, new int[] {8, 4, 16, 12}, new int[] {9, 5, 17, 13});
        turnSide(x, 8, new int[] {3, 12, 21, 6}, new int[] {2, 15, 20, 5});
        turnSide(x, 12, new int[] {2, 16, 22, 10}, new int[] {1, 19, 21, 9});
        due.sameText("three sides", Due.orderText(x), "3674160");
        turnSide(x, 20, new int[] {11, 15, 19, 7}, new int[] {10, 14, 18, 6});
        turnSide(x, 16, new int[] {1, 4, 23, 14}, new int[] {0, 7, 22, 13});
        turnSide(x, 4, new int[] {0, 8, 20, 18}, new int[] {3, 11, 23, 17});
        due.sameText("six sides", Due.orderText(x), "88179840");
        due.same("block of one corner", x.block(3, 8), 3);
        due.same("block over two corners", x.block(3, 9), 24);
        x.state();
        x.scramble(0, 2026, 500);
        due.same("a scrambled cube", x.member(0), 1);
        x.exchange(0, 0, 1);
        due.same("two stickers exchanged", x.member(0), 0);
    }

    private static void turnSide(CycleGroups x, int side, int[] one, int[] other) {
        Due.makeCycles(x, new int[] {side, side + 1, side + 2, side + 3}, one, other);
    }

    private static void productOfThree() {
        CycleGroups x = new CycleGroups(24);
        for (int part = 0; part < 3; part++) {
            int[] all = new int[8];
            for (int k = 0; k < 8; k++) {
                all[k] = part + 3 * k;
            }
            Due.makeCycles(x, all);
            Due.makeCycles(x, new int[] {part, part + 3});
        }
        due.sameText("S8 x S8 x S8", Due.orderText(x), "65548320768000");
        due.sameText("S7 x S8 x S8", Due.stabiliserText(x, 10), "8193540096000");
        due.same("orbit(22)", x.orbit(22), 1);
        due.same("block over two parts", x.block(0, 1), 16);
        due.same("block over one part", x.block(0, 3), 8);
    }

    private static void elementaryAbelian() {
        CycleGroups x = new CycleGroups(24);
        for (int m = 0; m < 10; m++) {
            Due.makeCycles(x, new int[] {2 * m, 2 * m + 1}, new int[] {22, 23});
            if (m % 2 == 1) {
                due.sameText("2 to the " + (m + 1), Due.orderText(x), Integer.toString(2 << m));
            }
        }
        due.same("run()", x.run(), 10);
        due.same("base(9)", x.base(9), 18);
        due.same("spread(22)", x.spread(22), 1);
        x.state();
        x.exchange(0, 4, 5);
        due.same("fails at 22", x.level(0), 22);
        x.exchange(0, 22, 23);
        due.same("of the group", x.level(0), 24);
    }

    /**
     * Eight places, and ten moves of which each makes the group larger, which is as long as such a
     * chain of groups can be: the places are the vectors of three bits; first they are shifted, then
     * turned by linear maps, told by what they make of 1, 2 and 4.
     */
    private static void eachOfTenMovesEnlarges() {
        int[][] moves = {linear(1, 1, 2, 4), linear(2, 1, 2, 4), linear(4, 1, 2, 4),
            linear(0, 1, 3, 4), linear(0, 1, 2, 5), linear(0, 1, 2, 6), linear(0, 2, 1, 4),
            linear(0, 2, 4, 1), {1, 2, 0, 3, 4, 5, 6, 7}, {1, 0, 2, 3, 4, 5, 6, 7}};
        String[] orders = {"2", "4", "8", "16", "32", "64", "192", "1344", "20160", "40320"};
        CycleGroups askedBetween = new CycleGroups(8);
        CycleGroups askedAtLast = new CycleGroups(8);
        for (int m = 0; m < moves.length; m++) {
            Due.makeMove(askedBetween, moves[m]);
            Due.makeMove(askedAtLast, moves[m]);
            due.sameText("with move " + m, Due.orderText(askedBetween), orders[m]);
        }
        due.sameText("with all ten moves", Due.orderText(askedAtLast), "40320");
        due.same("run() with all ten moves", askedAtLast.run(), 7);
        askedAtLast.state();
        askedAtLast.exchange(0, 0, 7);
        due.same("member(0) with all ten moves", askedAtLast.member(0), 1);
    }

    private static int[] linear(int shift, int ofOne, int ofTwo, int ofFour) {
        int[] row = new int[8];
        for (int p = 0; p < 8; p++) {
            row[p] = shift ^ (p & 1) * ofOne ^ (p >> 1 & 1) * ofTwo ^ (p >> 2) * ofFour;
        }
        return row;
    }
}
