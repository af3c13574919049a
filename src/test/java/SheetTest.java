/** Promises 32 to 36: sheets. */
final class SheetTest {
    private static final int BAD = NodBench.BAD, NOT = NodBench.NOT, FULL = NodBench.FULL;
    private static final int NULL = NodBench.NULL, CAST = NodBench.CAST, INDEX = NodBench.INDEX, SIZE = NodBench.SIZE;
    private static final Due due = new Due();

    public static void main(String[] args) {
        crowd();
        crowdIsWhole();
        sheet();
        drop();
        item();
        lanes();
        film();
        due.close("SheetTest");
    }

    private static void fill(NodBench x, int sheet, int lane, int from, int... items) {
        for (int i = 0; i < items.length; i++) {
            due.is("filled", x.item(sheet, lane, from + i, items[i]), 1);
        }
    }

    private static void crowd() {
        NodBench x = new NodBench();
        due.is("32 nothing there", x.crowd(1, 2, 0, 1), NULL);
        x.sheet(1, 2, 9);
        fill(x, 1, 2, 1, 230, 4, 3, 229, 5, 1, 0, 2);
        due.is("32 no sheet", x.crowd(4, 2, 1, 1), BAD);
        due.is("32 no sheet", x.crowd(-1, 2, 1, 1), BAD);
        due.is("32 no lane", x.crowd(1, 3, 1, 1), BAD);
        due.is("32 no lane", x.crowd(1, -1, 1, 1), BAD);
        due.is("32 no rows", x.crowd(1, 2, 1, 0), BAD);
        due.is("32 seven rows", x.crowd(0, 2, 1, 7), BAD);
        due.is("32 another lane", x.crowd(1, 1, 1, 1), CAST);
        due.is("32 CAST before INDEX", x.crowd(1, 1, -1, 1), CAST);
        due.is("32 NULL before INDEX", x.crowd(0, 1, -1, 1), NULL);
        due.is("32 too far", x.crowd(1, 2, 2, 2), INDEX);
        due.is("32 too far", x.crowd(1, 2, 6, 1), INDEX);
        due.is("32 below", x.crowd(1, 2, -1, 1), INDEX);
        due.is("32 far above", x.crowd(1, 2, Integer.MAX_VALUE, 6), INDEX);
        due.is("32 far below", x.crowd(1, 2, Integer.MIN_VALUE, 6), INDEX);
        due.is("32 two", x.crowd(1, 2, 1, 2), 2);
        int[] want = {230, 4, 3, 229, 5, 1, 0, 2};
        for (int i = 0; i < 8; i++) {
            due.is("32 told " + i, x.told(i / 4, i % 4), want[i]);
        }
        due.is("32 up to the end", x.crowd(1, 2, 5, 1), 1);
        due.is("32 behind the others", x.told(2, 0), 5);
    }

    private static void crowdIsWhole() {
        NodBench x = new NodBench();
        x.sheet(0, 1, 24);
        due.is("32 nothing but noughts is a plain one", x.crowd(0, 1, 0, 6), 6);
        fill(x, 0, 1, 12, 5, 0, 0, 1);
        due.is("32 one is not as told", x.crowd(0, 1, 0, 4), NOT);
        due.is("32 none comes", x.count(0), 6);
        due.is("32 those before it", x.crowd(0, 1, 0, 3), 3);
        due.is("32 not all have room", x.crowd(0, 1, 16, 2), 2);
        due.is("32 not all have room", x.crowd(0, 1, 0, 2), FULL);
        due.is("32 none comes", x.count(0), 11);
        due.is("32 NOT before FULL", x.crowd(0, 1, 0, 4), NOT);
        due.is("32 INDEX before NOT", x.crowd(0, 1, 12, 4), INDEX);
        due.is("32 the last one", x.crowd(0, 1, 0, 1), 1);
        due.is("32 full", x.crowd(0, 1, 0, 1), FULL);
        due.is("32 the day is played anew", x.day(3) + x.day(5), 12);
    }

    private static void sheet() {
        NodBench x = new NodBench();
        due.is("33 no sheet", x.sheet(-1, 0, 1), BAD);
        due.is("33 no sheet", x.sheet(4, 0, 1), BAD);
        due.is("33 no lane", x.sheet(0, -1, 1), BAD);
        due.is("33 no lane", x.sheet(0, 3, 1), BAD);
        due.is("33 too many", x.sheet(0, 0, 25), BAD);
        due.is("33 below none", x.sheet(0, 0, -1), SIZE);
        due.is("33 below none", x.sheet(3, 2, Integer.MIN_VALUE), SIZE);
        due.is("33 BAD before SIZE", x.sheet(4, 0, -1), BAD);
        due.is("33 still nothing", x.drop(0), NULL);
        due.is("33 none", x.sheet(0, 0, 0), 0);
        due.is("33 a row of none", x.item(0, 0, 0, 1), INDEX);
        due.is("33 as many as may be", x.sheet(0, 1, 24), 24);
        due.is("33 the last", x.item(0, 1, 23, 1), 1);
        due.is("33 refused: it stays", x.sheet(0, 2, -1), SIZE);
        due.is("33 refused: it stays", x.item(0, 1, 23, 7), 1);
        x.sheet(0, 1, 24);
        due.is("33 a new row is of noughts", x.crowd(0, 1, 20, 1), 1);
        due.is("33 a new row is of noughts", x.told(0, 3), 0);
    }

    private static void drop() {
        NodBench x = new NodBench();
        due.is("34 no sheet", x.drop(-1), BAD);
        due.is("34 no sheet", x.drop(4), BAD);
        due.is("34 nothing", x.drop(3), NULL);
        x.sheet(3, 2, 17);
        x.sheet(2, 2, 0);
        due.is("34 how many", x.drop(3), 17);
        due.is("34 nothing now", x.drop(3), NULL);
        due.is("34 a row of none", x.drop(2), 0);
        due.is("34 nothing now", x.drop(2), NULL);
        due.is("34 nothing now", x.item(2, 2, 0, 0), NULL);
    }

    private static void item() {
        NodBench x = new NodBench();
        due.is("35 nothing", x.item(0, 0, 0, 0), NULL);
        x.sheet(0, 0, 3);
        due.is("35 no sheet", x.item(4, 0, 0, 0), BAD);
        due.is("35 no sheet", x.item(-1, 0, 0, 0), BAD);
        due.is("35 no lane", x.item(0, 3, 0, 0), BAD);
        due.is("35 no lane", x.item(0, -1, 0, 0), BAD);
        due.is("35 another lane", x.item(0, 1, 0, 0), CAST);
        due.is("35 another lane", x.item(0, 2, 9, 0), CAST);
        due.is("35 below", x.item(0, 0, -1, 0), INDEX);
        due.is("35 above", x.item(0, 0, 3, 0), INDEX);
        due.is("35 far above", x.item(0, 0, Integer.MAX_VALUE, 0), INDEX);
        due.is("35 far below", x.item(0, 0, Integer.MIN_VALUE, 0), INDEX);
        due.is("35 the last", x.item(0, 0, 2, 0), 1);
    }

    /** What is kept of a value is seen by the minute of who is told by it. */
    private static void lanes() {
        int[] v = {261, 65541, 5, -251, 128, 200, 32768, 65535, -65531, 239, 240, Integer.MIN_VALUE, 256 * 256 + 239};
        for (int value : v) {
            int[] kept = {(byte) value, (short) value, value};
            for (int lane = 0; lane < 3; lane++) {
                NodBench x = new NodBench();
                x.sheet(0, lane, 4);
                x.item(0, lane, 0, value);
                boolean isMinute = kept[lane] >= 0 && kept[lane] < 240;
                due.is("35 lane " + lane + " of " + value, x.crowd(0, lane, 0, 1), isMinute ? 1 : NOT);
                due.is("35 lane " + lane + " of " + value, x.told(0, 0), isMinute ? kept[lane] : BAD);
            }
        }
    }

    private static void film() {
        NodBench x = new NodBench();
        due.is("36 nothing", x.film(0, 0, 0), NULL);
        x.sheet(0, 2, 4);
        due.is("36 no sheet", x.film(4, 2, 0), BAD);
        due.is("36 no sheet", x.film(-1, 2, 0), BAD);
        due.is("36 no lane", x.film(0, 3, 0), BAD);
        due.is("36 no lane", x.film(0, -1, 0), BAD);
        due.is("36 another lane", x.film(0, 1, -1), CAST);
        due.is("36 none below", x.film(0, 2, -1), INDEX);
        due.is("36 none above", x.film(0, 2, 5), INDEX);
        due.is("36 none at the end", x.film(0, 2, 4), 0);
        Due.people(x, "0p0;0p0;0p0;1c0:2");
        due.is("36 above", x.film(0, 2, 1), INDEX);
        due.is("36 below", x.film(0, 2, -1), INDEX);
        due.is("36 far above", x.film(0, 2, Integer.MAX_VALUE), INDEX);
        x.person(1, 0, 0, 0);
        due.is("36 five", x.film(0, 2, 0), INDEX);
        x.strike(4);
        due.is("36 all", x.film(0, 2, 0), 4);
        // The waits are 0, 0, 10 and 239: a row that tells no one of PEOPLE.
        due.is("36 they came", x.crowd(0, 2, 0, 1), NOT);
        x.item(0, 2, 3, 0);
        due.is("36 they came: sort 10 is none", x.crowd(0, 2, 0, 1), NOT);
        x.item(0, 2, 2, 0);
        due.is("36 they came", x.crowd(0, 2, 0, 1), 1);
        due.is("36 the minute is the first wait", x.told(4, 0), 0);
        filmOfBytes();
    }

    private static void filmOfBytes() {
        NodBench y = new NodBench();
        Due.people(y, "3p0;0p3;0p3");
        y.sheet(3, 1, 4);
        y.film(3, 1, 0);
        due.is("36 the first one's, too", y.crowd(3, 1, 0, 1), 1);
        due.is("36 the first one's, too", y.told(3, 0), 27);
        NodBench x = new NodBench();
        Due.people(x, "0p3;0p3;3p0;0c0:2");
        for (int lane = 0; lane < 3; lane++) {
            x.sheet(1, lane, 12);
            due.is("36 from two on", x.film(1, lane, 2), 4);
            // Waits 0, 0, 27, 240 stand at 2 to 5: 27 is a minute from 4 on, with the sort behind it made right.
            x.item(1, lane, 5, 0);
            due.is("36 27 is told", x.crowd(1, lane, 4, 1), 1);
            due.is("36 27 is told", x.told(x.count(0) - 1, 0), 27);
            x.strike(x.count(0) - 1);
            x.film(1, lane, 2);
            x.item(1, lane, 6, 0);
            due.is("36 240 is no minute, nor as a byte", x.crowd(1, lane, 5, 1), NOT);
        }
    }
}
