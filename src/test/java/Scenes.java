/** Objects that refused calls are made on. */
final class Scenes {
    static final String LAND = "ps3;ph3r50k1;ph9r0s9;p;wt2f3;wa1b2;wa2b0t9;cg50q1;cp1g30q2;cp2g9w9m3q4;cg3q8;fb9;fp1b1";

    private Scenes() {
    }

    /** No land; a law, orders and something on the tape. */
    static SaltArmy withoutLand() {
        SaltArmy x = new SaltArmy();
        Checks.text(x, 1, "y:w+1");
        Checks.text(x, 2, "r;w;m01");
        Checks.feed(x, "p;p;c");
        return x;
    }

    /**
     * Four places (3 has no way), companies 0 at place 0, 1 on the way to 2, 2 at 2, 3 gone, 4 cast at 0; foes, a law
     * that holds, orders, an image, acts, sky, streaks, a log, a land on the tape.
     */
    static SaltArmy busy() {
        SaltArmy x = Checks.land(LAND);
        Checks.text(x, 1, "y:w-h/3");
        Checks.text(x, 1, "y:g>9?2;y:1");
        x.law(1);
        Checks.text(x, 2, "r;d0;m01;w;j01");
        x.hour(5);
        x.dig(2);
        x.image();
        x.hour(1);
        x.hour(1);
        x.march(1, 2);
        x.cast(0, 2);
        x.sky(1, 2, true);
        x.sky(0, 1, false);
        x.streak(1, 2);
        Checks.feed(x, "p;p;c");
        return x;
    }
}
