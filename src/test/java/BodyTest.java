/** Promises 9 to 15: sensor, body, air, limit, write, erase, fault. */
public final class BodyTest {
    private static final Due due = new Due();
    private static final int MAX = Integer.MAX_VALUE, MIN = Integer.MIN_VALUE;

    private static void sensors() {
        due.promise(9);
        FlyerRoom x = new FlyerRoom();
        int[][] bad = {{-1, 0, 0, 0}, {2, 0, 0, 0}, {0, -1001, 0, 0}, {0, 1001, 0, 0}, {0, 0, -101, 0}, {0, 0, 101, 0},
            {0, 0, 0, -1}, {0, 0, 0, 1001}, {MAX, MIN, MAX, MIN}};
        for (int[] s : bad) due.is("sensor " + s[0] + " " + s[1] + " " + s[2] + " " + s[3], x.sensor(s[0], s[1], s[2], s[3]), -2);
        due.is("count(3)", x.count(3), 0);
        due.is("sensor", x.sensor(0, -1000, -100, 1000), 0);
        due.is("sensor", x.sensor(1, 1000, 100, 0), 1);
        for (int i = 2; i < 6; i++) due.is("sensor", x.sensor(1, 0, 0, 0), i);
        due.is("sensor, full", x.sensor(0, 0, 0, 0), -4);
        due.is("sensor, bad ahead of full", x.sensor(2, 0, 0, 0), -2);
        due.is("count(3)", x.count(3), 6);
    }

    private static void drifts() {
        due.promise(9);
        // The body stays at 0, for it falls: so the sensors tell offset and drift alone.
        FlyerRoom x = new FlyerRoom();
        x.sensor(0, 10, -3, 0);
        x.sensor(1, -10, 3, 0);
        x.fly(1);
        due.is("sensed(0)", x.sensed(0), 10);
        due.is("sensed(1)", x.sensed(1), -10);
        x.fly(5);
        due.is("sensed(0): -3 times 5 by 16, cut", x.sensed(0), 10);
        x.fly(1);
        due.is("sensed(0): -3 times 6 by 16, cut", x.sensed(0), 9);
        due.is("sensed(1): 3 times 6 by 16, cut", x.sensed(1), -9);
        due.is("sensor behind FRAME 0", x.sensor(0, 100, 0, 0), 2);
        x.fly(1);
        due.is("half of both: 9 and 100", x.sensed(0), 54);
        FlyerRoom y = new FlyerRoom();
        y.sensor(0, -3, 0, 0);
        y.sensor(0, 0, 0, 0);
        y.sensor(1, 500, 0, 0);
        y.fly(1);
        due.is("half of -3 and 0, cut toward 0", y.sensed(0), -1);
        due.is("a sort for itself", y.sensed(1), 500);
        FlyerRoom z = new FlyerRoom();
        int[] offsets = {7, -5, 100, 3, 40, 900};
        for (int i = 0; i < 5; i++) z.sensor(0, offsets[i], 0, 0);
        z.fly(1);
        due.is("middle of five", z.sensed(0), 7);
        z.sensor(0, offsets[5], 0, 0);
        z.fly(1);
        due.is("middle of six: 7 and 40", z.sensed(0), 23);
    }

    private static void bodies() {
        due.promise(10);
        FlyerRoom x = new FlyerRoom();
        int[][] bad = {{-1, 0}, {1000001, 0}, {0, -1000001}, {0, 1000001}, {MAX, MAX}, {MIN, MIN}};
        for (int[] b : bad) due.is("body " + b[0] + " " + b[1], x.body(b[0], b[1]), -2);
        due.is("now(0)", x.now(0), 0);
        due.is("body(1000000, -1000000)", x.body(1000000, -1000000), 1);
        due.is("now(0)", x.now(0), 1000000);
        due.is("now(1)", x.now(1), -1000000);
        due.is("body(0, 1000000)", x.body(0, 1000000), 1);
        due.is("body(1000, 30)", x.body(1000, 30), 1);
        x.fly(1);
        due.is("now(1): 30 - 10 - 9", x.now(1), 11);
        due.is("now(0)", x.now(0), 1011);
        x.body(1000, -30);
        x.fly(1);
        due.is("now(1): -30 - 10 + 9", x.now(1), -31);
        due.is("now(0)", x.now(0), 969);
        x.body(1000, -19);
        x.fly(1);
        due.is("now(1): -19 - 10 + 3 (3.61, cut)", x.now(1), -26);
        x.body(9, 0);
        x.fly(1);
        due.is("below 0: height", x.now(0), 0);
        due.is("below 0: speed", x.now(1), 0);
        x.body(10, 0);
        x.fly(1);
        due.is("just 0: height", x.now(0), 0);
        due.is("just 0: speed stays", x.now(1), -10);
        x.body(500, -1000000);
        x.fly(1);
        due.is("as longs: speed", x.now(1), 1000000);
        due.is("as longs: height", x.now(0), 1000000);
        x.fly(1);
        due.is("as longs: -10000000000 brought", x.now(1), -1000000);
        due.is("height and speed as brought", x.now(0), 0);
    }

    private static int windOf(int lot, int gust) {
        return (lot >>> 16) % (2 * gust + 1) - gust;
    }

    private static void air() {
        due.promise(11);
        FlyerRoom x = new FlyerRoom();
        int[][] bad = {{0, 0, 0}, {1001, 0, 0}, {1, -1, 0}, {1, 51, 0}, {MAX, MIN, 0}, {MIN, 0, 0}};
        for (int[] a : bad) due.is("air " + a[0] + " " + a[1] + " " + a[2], x.air(a[0], a[1], a[2]), -2);
        due.is("air(1, 50, MIN)", x.air(1, 50, MIN), 1);
        due.is("air(1000, 0, MAX)", x.air(1000, 0, MAX), 1);
        x.body(1000, 100);
        x.fly(1);
        due.is("now(1): 100 - 10 - 10000 / 1000", x.now(1), 80);
        x.air(1, 0, 0);
        x.body(1000, 3);
        x.fly(1);
        due.is("now(1), the least drag: 3 - 10 - 9", x.now(1), -16);
        int lot = -123456789;
        int least = 0, greatest = 0;
        x.air(1000, 50, lot);
        for (int i = 0; i < 20; i++) {
            x.body(1000, 0);
            x.fly(1);
            lot = lot * 1103515245 + 12345;
            due.is("wind, frame " + i, x.now(1), windOf(lot, 50) - 10);
            least = Math.min(least, windOf(lot, 50));
            greatest = Math.max(greatest, windOf(lot, 50));
        }
        due.is("winds of both kinds were there", least < 0 && greatest > 0 ? 1 : 0, 1);
        x.air(1000, 0, 0);
        x.fly(3);
        long before = x.digest();
        x.air(1000, 0, ((12345 * 1103515245 + 12345) * 1103515245) + 12345);
        due.is("the lot goes on without gusts, too", x.digest(), before);
    }

    private static void limits() {
        due.promise(12);
        FlyerRoom x = new FlyerRoom();
        int[][] bad = {{-1, 0, 0}, {4, 0, 0}, {0, -1001, 0}, {0, 0, 1001}, {0, 1, 0}, {0, MIN, MAX}, {0, 1001, 1001}};
        for (int[] l : bad) due.is("limit " + l[0] + " " + l[1] + " " + l[2], x.limit(l[0], l[1], l[2]), -2);
        due.is("limit(3, -1000, 1000)", x.limit(3, -1000, 1000), 1);
        due.is("limit(0, 7, 7)", x.limit(0, 7, 7), 1);
        due.is("no call moves the mover", x.now(2), 0);
        due.is("what it was is brought, too", x.fly(1), 7);
        x.limit(0, -20, 3);
        due.is("fly(1)", x.fly(1), 3);
        x.limit(0, -20, 30);
        due.is("it stays as brought", x.fly(1), 3);
        // The mode becomes 1 behind the first frame, and its limits hold from the next on.
        FlyerRoom y = new FlyerRoom();
        y.step(0, 0, 5000, 0);
        y.step(9, 0, 0, 0);
        y.part(0, 0, 2);
        y.slot(0, 0, 2);
        y.limit(1, -1000, -900);
        Due.write(y, "1");
        due.is("fly(1)", y.fly(1), 100);
        due.is("now(3)", y.now(3), 1);
        due.is("fly(1)", y.fly(1), -900);
        due.is("voted(0, 0) is not brought", y.voted(0, 0), 5000);
    }

    private static void writes() {
        due.promise(13);
        FlyerRoom x = new FlyerRoom();
        int[] bad = {-1, 128, MAX, MIN};
        for (int c : bad) due.is("write(" + c + ")", x.write(c), -2);
        due.is("write(0)", x.write(0), 1);
        due.is("write(127)", x.write(127), 2);
        for (int i = 3; i <= 60; i++) due.is("write(32)", x.write(32), i);
        due.is("write, full", x.write(32), -4);
        due.is("write, bad ahead of full", x.write(128), -2);
        due.is("count(5)", x.count(5), 60);
        due.promise(14);
        due.is("erase()", x.erase(), 60);
        due.is("erase()", x.erase(), 0);
        due.is("count(5)", x.count(5), 0);
        due.is("write(49)", x.write(49), 1);
        due.is("fault()", x.fault(), -1);
        x.fly(1);
        due.is("now(3)", x.now(3), 1);
        x.erase();
        due.is("fault()", x.fault(), 1);
        x.fly(1);
        due.is("without rules the mode stays", x.now(3), 1);
    }

    private static int faultOf(String text) {
        FlyerRoom x = new FlyerRoom();
        Due.write(x, text);
        return x.fault();
    }

    private static void faults() {
        due.promise(15);
        String[] good = {"1", "h", " h ", "123456", "000000", "h<9", "h < 9 & v > 3 | n = d", "!h", "!!--!h", "- 5", "1-2-3",
            "((((((((1))))))))", "(1)+(2)", "( ( h ) )", "m*f/2", "1<(2<3)", "-h<-5", "1|2&3|4", "1 + 2 * 3 - 4 / 5",
            "(((((((1)))))))*((((((((1))))))))"};
        for (String text : good) due.is(text, faultOf(text), -1);
        Object[][] bad = {{"", 1}, {"   ", 31}, {"1+", 21}, {"1+ ", 31}, {"?", 1}, {"  ?", 21}, {"1<2<3", 31}, {"1=2=3", 31},
            {"1<2>3", 31}, {"1 2", 21}, {"12 34", 31}, {"h5", 11}, {"5h", 11}, {"hv", 11}, {"(1", 21}, {"(1 ", 31},
            {"1)", 11}, {"()", 11}, {")", 1}, {"1++2", 21}, {"1+-2)", 41}, {"*1", 1}, {"1**2", 21}, {"1!", 11}, {"1&&1", 21},
            {"1||1", 21}, {"1<=2", 21}, {"H", 1}, {"x", 1}, {"h(1)", 11}, {"1(", 11}, {"1+(2*", 51}, {"!", 11}, {"-", 11},
            {"1234567", 2}, {" 1234567", 12}, {"h+1234567+?", 22}, {"12345678", 2}, {"h1234567", 11}, {"1 1234567", 21},
            {"(((((((((1)))))))))", 83}, {"( ( ( ( ( ( ( ( ( 1", 163}, {"h+(((((((((", 103}, {"1((((((((((", 11},
            {"(?((((((((1", 11}, {"!(-(((((((((", 103}};
        for (Object[] pair : bad) due.is((String) pair[0], faultOf((String) pair[0]), (Integer) pair[1]);
        due.is("a character 9 is no blank", faultOf("1\t"), 11);
        due.is("a character 0", faultOf("1\0"), 11);
        StringBuilder signs = new StringBuilder();
        for (int i = 0; i < 59; i++) signs.append(i % 2 == 0 ? '!' : '-');
        due.is("59 signs, too early", faultOf(signs.toString()), 591);
        due.is("59 signs and a unit", faultOf(signs + "h"), -1);
        due.is("60 signs", faultOf(signs + "!"), 601);
    }

    private static int modeOf(String text, int height, int speed, int mode) {
        FlyerRoom x = new FlyerRoom();
        Due.write(x, "" + mode);
        x.fly(1);
        x.erase();
        Due.write(x, text);
        // The body loses 10 in the frame ahead of the rules; with this drag a small speed loses no more.
        x.air(1000, 0, 0);
        x.body(height - speed, speed + 10);
        x.fly(1);
        return x.now(3);
    }

    private static void modes() {
        due.promise(15);
        Object[][] told = {{"2", 2}, {"7", 3}, {"-1", 0}, {"h=50", 1}, {"h=51", 0}, {"v=4", 1}, {"v=3", 0}, {"h<50", 0}, {"h<51", 1}, {"h>49", 1},
            {"h>50", 0}, {"n", 3}, {"d", 0}, {"f", 0}, {"m", 2}, {"m+1", 3}, {"m-1", 1}, {"!m", 0}, {"!0", 1}, {"!-1+2", 2},
            {"--3", 3}, {"1+2*3-5", 2}, {"7/2", 3}, {"-7/4+2", 1}, {"5/0+2", 2}, {"8/2/2", 2}, {"9-4-3", 2}, {"2&3", 1},
            {"2&0", 0}, {"0|5", 1}, {"0|0", 0}, {"1|0&0", 1}, {"(1|0)&0", 0}, {"-1&-1", 1}, {"1<2=0", -1}, {"2*(1+0)", 2},
            {"(1<2)+(2<3)", 2}, {"1=1&2", 1}, {"1+1=2", 1}, {"!2<1", 1}, {"999999*999999*999999*999999<0", 1},
            {"h/16", 3}, {"999999", 3}, {" ( 1 + 1 ) ", 2}, {"3&", -1}, {"!!5", 1}, {"-(0-2)", 2}, {"1--1", 2}, {"4*-1+5", 1}};
        for (Object[] pair : told) {
            int want = (Integer) pair[1];
            // With a fault the mode stays, and that was 2.
            due.is((String) pair[0], modeOf((String) pair[0], 50, 4, 2), want < 0 ? 2 : want);
        }
    }

    private static void modeOfFrame() {
        due.promise(15);
        // d and n: lane 1 differs for three frames and is in until behind the third.
        FlyerRoom x = Due.sayers(3);
        Due.write(x, "d");
        x.harm(0, 0, 1, 0, 2);
        x.harm(0, 0, 2, 0, 3);
        x.fly(1);
        due.is("no result: none differs", x.now(3), 0);
        FlyerRoom y = Due.sayers(4);
        Due.write(y, "n-1+10*(d>1)");
        y.harm(0, 0, 3, 0, 2);
        y.fly(2);
        due.is("4 lanes are in", y.now(3), 3);
        y.fly(1);
        due.is("3 lanes are in", y.now(3), 2);
        FlyerRoom u = Due.sayers(4);
        Due.write(u, "d");
        u.harm(0, 0, 3, 0, 2);
        u.fly(1);
        due.is("d tells how many, not which", u.now(3), 1);
        FlyerRoom z = new FlyerRoom();
        z.step(4, 0, 0, 0);
        z.part(0, 0, 1);
        z.slot(0, 0, 1);
        Due.write(z, "f");
        z.fly(1);
        due.is("f: in all lanes", z.now(3), 3);
        due.is("now(7)", z.now(7), 3);
    }

    public static void main(String[] args) {
        sensors();
        drifts();
        bodies();
        air();
        limits();
        writes();
        faults();
        modes();
        modeOfFrame();
        due.end();
    }
}
