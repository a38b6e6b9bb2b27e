/** Holds answers against those that are due, for the tests that are written by hand. */
final class Due {
    private String told = "";
    private int held = 0;
    private int wrong = 0;

    /** The promise that the answers from here on hold. */
    void promise(int number) {
        told = "promise " + number;
    }

    /** The words of the document that the answers from here on hold. */
    void sentence(String words) {
        told = "\"" + words + "\"";
    }

    void is(String call, long got, long want) {
        if (got == want) {
            held++;
            return;
        }
        wrong++;
        System.out.println(told + ": " + call + " answered " + got + ", due is " + want);
    }

    void end() {
        System.out.println(held + " answers are as due, " + wrong + " are not");
        if (wrong != 0) System.exit(1);
    }

    static void write(FlyerRoom room, String text) {
        for (int i = 0; i < text.length(); i++) room.write(text.charAt(i));
    }

    static int[] s(int act, int a, int b, int c) {
        return new int[] {act, a, b, c};
    }

    /** Lanes that run these steps, as part 0, in one slot of so many ticks. */
    static FlyerRoom runners(int lanes, int ticks, int[]... steps) {
        FlyerRoom room = new FlyerRoom();
        room.lanes(lanes);
        for (int[] s : steps) room.step(s[0], s[1], s[2], s[3]);
        room.part(0, 0, steps.length);
        room.slot(0, 0, ticks);
        return room;
    }

    /** Lanes that say cell 0 as word 0 in each frame and change nothing. */
    static FlyerRoom sayers(int lanes) {
        return runners(lanes, 1, s(9, 0, 0, 0));
    }
}
