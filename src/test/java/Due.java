/** Holds answers against those that are due, for the tests that are written by hand. */
final class Due {
    private int promise = 0;
    private int held = 0;
    private int wrong = 0;

    void promise(int number) {
        promise = number;
    }

    void is(String call, long got, long want) {
        if (got == want) {
            held++;
            return;
        }
        wrong++;
        System.out.println("promise " + promise + ": " + call + " answered " + got + ", due is " + want);
    }

    void end() {
        System.out.println(held + " answers are as due, " + wrong + " are not");
        if (wrong != 0) System.exit(1);
    }

    static void write(FlyerRoom room, String text) {
        for (int i = 0; i < text.length(); i++) room.write(text.charAt(i));
    }

    /** Lanes that say cell 0 as word 0 in each frame and change nothing. */
    static FlyerRoom sayers(int lanes) {
        FlyerRoom room = new FlyerRoom();
        room.lanes(lanes);
        room.step(9, 0, 0, 0);
        room.part(0, 0, 1);
        room.slot(0, 0, 1);
        return room;
    }
}
