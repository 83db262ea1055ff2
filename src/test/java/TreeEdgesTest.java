/** Promises 9 to 13 at their edges: each sentence that names one has a run of its own. */
public final class TreeEdgesTest {
    private static final String SIX = "bridge 0; bridge 1; bridge 2; bridge 3; bridge 4; bridge 5";

    /** A row of six bridges, the root at one end, each wire as dear as can be. */
    private static final String LONG_ROW =
            SIX + "; wire 0 4 9; wire 5 8 9; wire 9 12 9; wire 13 16 9; wire 17 20 9";

    /** Settled and without a mark: bridge 0 is the root, places 5 and 1 are a second way. */
    private static final String PAIR = "bridge 0; bridge 1; wire 0 4 1; wire 1 5 1; tick 40";

    public static void main(String[] args) {
        Check check = new Check();
        numbersOfTicks(check);
        ages(check);
        untils(check);
        notices(check);
        forgetting(check);
        rolesOfPlaces(check);
        rolesByMessages(check);
        statesOfPlaces(check);
        statesByTime(check);
        roots(check);
        heldOfPlaces(check);
        partsOfHeld(check);
        check.end();
    }

    private static void numbersOfTicks(Check check) {
        String wired = "bridge 0; bridge 1; wire 0 4 1; tick 1";
        check.refusals("9 n isn't 0 .. 60", wired, "held 0 4 = 0; state 0 = 2; tick 0 = 1; tick 1 = 2",
                "tick -1 = -1", "tick 61 = -1", "tick MIN = -1", "tick MAX = -1");
        check.run("9 no tick", "6 1 5", wired, "tick 0 = 1; held 0 4 = 0; state 0 = 2; root 1 = 2");
        check.run("9 one", "6 1 5", wired, "tick 1 = 2; held 0 4 = 1; state 0 = 3");
        check.run("9 sixty", "6 1 5", wired, "tick 60 = 61; held 0 4 = -1; state 0 = 3; root 1 = 2");
        // Four calls before, five hundred ticks, eight questions.
        check.run("9 all 512 calls", "6 4 40", wired, "tick 60; ".repeat(499) + "tick 60 = 30001",
                "role 4 = 1; state 0 = 3; state 4 = 3; root 0 = 0; root 1 = 2; held 4 4 = 0; entries 0 = 0",
                "held 0 4 = -1");
    }

    private static void ages(Check check) {
        // Bridge 0 gets one worse message, that is not sent again.
        String lone = "bridge 0; bridge 1; wire 0 4 1; tick 1";
        check.run("9 the age is one below the limit", "7 1 5", lone, "tick 6; held 0 4 = 6; held 0 0 = 9");
        check.run("9 the age is the limit", "7 1 5", lone,
                "tick 7; held 0 4 = -1; held 0 0 = -1; role 0 = 2");
        check.run("9 the farthest of six, with the least limit", "6 1 5", LONG_ROW,
                "tick 60; held 4 4 = 0; held 8 4 = 1; held 12 4 = 2; held 16 4 = 3; held 20 4 = 4",
                "tick 1; held 20 4 = 4; root 5 = 90");
        // The root's wire is cut: what bridge 1 sent of it with age 1 is the last that bridge 2 gets.
        check.run("9 a root that is lost, one tick after the other", "6 1 5", LONG_ROW,
                "tick 60; cut 0 1; root 1 = 18432; root 5 = 90; tick 1; held 8 0 = 9; held 12 0 = 0",
                "held 12 4 = 2",
                "tick 1; held 12 0 = 9; held 16 4 = 3; tick 1; held 20 4 = 4; tick 1; held 20 0 = 9",
                "held 20 4 = 3");
        check.run("9 a port holds one message, the newer", "6 1 5",
                "bridge 2; bridge 1; bridge 0; wire 0 4 1; wire 5 8 1; tick 1; held 0 0 = 9; held 0 1 = 0",
                "tick 1",
                "held 0 0 = 2; held 0 1 = 1; held 0 4 = 1");
    }

    private static void untils(Check check) {
        String one = "bridge 0; host 0 0";
        check.run("12 UNTIL is 0 at first", "6 1 5", one,
                "root 0 = 0; tick 1; root 0 = 0; tick 1; root 0 = 0");
        check.run("12 time is one below UNTIL", "6 1 5", one, "tick 9; root 0 = 1");
        check.run("12 time is UNTIL", "6 1 5", one, "tick 10; root 0 = 0");
        check.run("12 a later notice moves UNTIL on", "6 1 5", one,
                "tick 5; host 1 0; tick 5 = 10; root 0 = 1; tick 4 = 14; root 0 = 1; tick 1 = 15",
                "root 0 = 0");
        check.run("12 a notice that comes when UNTIL has passed", "6 1 5", one,
                "tick 20; host 1 0; tick 2 = 22; root 0 = 0; tick 1 = 23; root 0 = 1; tick 7 = 30",
                "root 0 = 0");
        // Bridge 1 was marked on its own, but has a root that is not.
        check.run("12 only a root looks at its own UNTIL", "6 1 5",
                "bridge 0; bridge 1; tick 20; host 4 0; tick 3 = 23; root 1 = 18433; wire 0 5 1; tick 1 = 24",
                "root 1 = 2; cut 0 1; root 1 = 18433");
    }

    private static void notices(Check check) {
        check.run("12 from 1 to 2 is none", "6 4 5",
                "bridge 0; host 0 0; tick 7; state 0 = 2; root 0 = 0; tick 1; root 0 = 0");
        check.run("12 from 2 to 3 is one", "6 4 5",
                "bridge 0; host 0 0; tick 8; state 0 = 3; tick 1; root 0 = 1");
        check.run("12 from 1 to 0 is none", "6 2 5",
                "bridge 0; bridge 1; wire 0 4 1; tick 1; state 0 = 1; cut 0 1; tick 3; root 0 = 0",
                "root 1 = 18432");
        check.run("12 from 2 to 0 is one", "6 2 5",
                "bridge 0; bridge 1; wire 0 4 1; tick 2; state 0 = 2; cut 0 1; tick 1; root 0 = 1",
                "root 1 = 18433");
        check.run("12 from 3 to 0 is one", "6 2 5", PAIR, "root 0 = 0; cut 0 1; tick 1; root 0 = 1");
        check.run("12 from 0 to 1 is none", "6 2 5",
                "bridge 0; bridge 1; wire 0 4 1; cut 0 1; tick 20; cut 0 0; state 0 = 1; tick 1; root 0 = 0");
        // Place 5 is blocked when bridge 1 hears of the nearer way; the new wire forwards only at 48.
        check.run("12 from 3 to 0 in a tick is one", "6 4 5",
                "bridge 1; bridge 2; bridge 0; wire 0 4 1; wire 5 8 9; wire 1 9 1; cut 2 1; tick 40",
                "root 0 = 4116",
                "cut 2 0; tick 1; root 0 = 4098; state 5 = 3; tick 1 = 42; root 1 = 4100; role 5 = 3",
                "state 5 = 0",
                "tick 2 = 44; root 2 = 4096; tick 1 = 45; root 2 = 4097");
        check.run("12 the notice is lost with its tick", "6 1 5",
                "bridge 0; host 0 0; tick 3; root 0 = 1; tick 7 = 10; root 0 = 0; tick 60; root 0 = 0");
    }

    private static void forgetting(Check check) {
        String quiet = "bridge 0; host 0 0; host 1 0; tick 40";
        check.run("9 one below the memory", "6 4 9", quiet, "send 0 1 = 2; tick 8; entries 0 = 1");
        check.run("9 the memory", "6 4 9", quiet, "send 0 1 = 2; tick 9; entries 0 = 0; learned 0 0 0 = -1");
        check.run("9 learned again just before", "6 4 9", quiet,
                "send 0 1 = 2; tick 8; send 0 1 = 2; tick 8; entries 0 = 1; tick 1; entries 0 = 0");
        // A third host's port forwards at 48, so that the bridge is marked from 49 on.
        String marked = quiet + "; host 2 0; tick 6; send 0 1 = 2; tick 2 = 48; root 0 = 0; entries 0 = 1";
        check.run("9 one below the delay, marked", "6 4 9", marked, "tick 1 = 49; root 0 = 1; entries 0 = 1");
        check.run("9 the delay, marked", "6 4 9", marked, "tick 2 = 50; entries 0 = 0");
        check.run("9 older than the delay when the mark comes", "6 4 9", quiet,
                "host 2 0; tick 4; send 0 1 = 2; tick 4 = 48; entries 0 = 1; tick 1 = 49; root 0 = 1",
                "entries 0 = 0");
        // Marked till 9; the memory counts alone at 10.
        check.run("9 learned in the last marked tick", "6 1 9",
                "bridge 0; host 0 0; tick 9; root 0 = 1; send 0 -1 = 0; tick 1 = 10; root 0 = 0",
                "entries 0 = 1",
                "tick 7 = 17; entries 0 = 1; tick 1 = 18; entries 0 = 0");
        check.run("9 the bridge that isn't marked keeps", "6 1 9",
                "bridge 0; bridge 1; host 0 0; host 4 0; tick 20; send 0 -1; send 1 -1; host 5 0",
                "tick 2 = 22",
                "tick 1 = 23; root 0 = 0; root 1 = 18433; entries 0 = 1; entries 1 = 0");
    }

    private static void rolesOfPlaces(Check check) {
        check.run("10 below the first place", "6 1 5", SIX,
                "role -1 = -1; role -4 = -1; role MIN = -1; role 0 = 0");
        check.run("10 beyond the last place", "6 1 5", SIX,
                "role 24 = -1; role 25 = -1; role MAX = -1; role 23 = 0");
        check.run("10 the place of a bridge that isn't there yet", "6 1 5",
                "bridge 0; role 4 = -1; role 3 = 0; bridge 0; role 4 = 0; role 7 = 0; role 8 = -1");
        check.run("10 plugged to nothing", "6 1 5", "bridge 0; role 0 = 0; tick 9; role 0 = 0");
        check.run("10 plugged to a host", "6 1 5", "bridge 0; host 0 0; role 0 = 2; tick 9; role 0 = 2");
        check.run("10 plugged to the router", "6 1 5", "bridge 0; router 0; role 0 = 2; tick 9; role 0 = 2");
        check.run("10 plugged to a wire that is cut", "6 1 5",
                "bridge 0; wire 0 1 1; cut 0 1; role 0 = 0; tick 9; role 0 = 0");
        check.run("10 a host beside a root port", "6 1 5",
                "bridge 0; bridge 1; wire 0 4 1; host 5 0; tick 1; role 4 = 1; role 5 = 2");
    }

    private static void rolesByMessages(Check check) {
        check.run("10 it holds no message", "6 1 5",
                "bridge 0; bridge 1; wire 0 4 1; role 0 = 2; role 4 = 2");
        check.run("10 a root that is the bridge's own is no offer", "6 1 5",
                "bridge 3; wire 0 1 1; tick 1; held 1 0 = 24; role 0 = 2; role 1 = 3; root 0 = 49152");
        check.run("10 a root above the bridge's ID is no offer", "6 1 5",
                "bridge 3; bridge 3; wire 0 4 1; tick 1; held 0 0 = 25; role 0 = 2; root 0 = 49152");
        check.run("10 a root just below the bridge's ID is one", "6 1 5",
                "bridge 3; bridge 3; wire 0 4 1; tick 1; held 4 0 = 24; role 4 = 1; root 1 = 49154");
        // All else being one, the wire with the lower port of the sender is the way to the root.
        check.run("10 the port of the sender, not the own", "6 1 5",
                "bridge 0; bridge 1; wire 3 4 1; wire 2 5 1; tick 1; role 4 = 3; role 5 = 1");
        for (int b = 0; b < 6; b++) {
            for (int pair = 0; pair < 16; pair++) {
                wireWithinBridge(check, 4 * b + pair / 4, 4 * b + pair % 4);
            }
        }
        check.run("10 ten wires' worth of ways", "6 1 5", SIX,
                "wire 0 4 1; wire 1 8 1; wire 2 12 1; wire 3 16 1; wire 5 20 1; wire 9 21 1; wire 13 22 1",
                "wire 17 23 1",
                "wire 6 10 1; wire 14 18 1 = 9; tick 20; root 5 = 4; role 20 = 1; role 21 = 3; role 22 = 3",
                "role 23 = 3",
                "role 6 = 2; role 10 = 3; role 14 = 2; role 18 = 3");
    }

    /** All but the own port number is one. */
    private static void wireWithinBridge(Check check, int p, int q) {
        if (p < q) {
            check.run("10 the lower of the places " + p + " and " + q, "6 1 5", SIX,
                    "wire " + q + " " + p + " 1; tick 1; role " + p + " = 2; role " + q + " = 3; tick 20",
                    "role " + p + " = 2; role " + q + " = 3; held " + q + " 3 = " + p % 4);
        }
    }

    private static void statesOfPlaces(Check check) {
        check.run("11 below the first place", "6 1 5", SIX,
                "state -1 = -1; state -4 = -1; state MIN = -1; state 0 = 0");
        check.run("11 beyond the last place", "6 1 5", SIX, "state 24 = -1; state MAX = -1; state 23 = 0");
        check.run("11 the place of a bridge that isn't there yet", "6 1 5",
                "bridge 0; state 4 = -1; state 3 = 0; bridge 0; state 4 = 0; state 8 = -1");
        check.run("11 role 0", "6 1 5", "bridge 0; wire 0 1 1; cut 0 1; tick 9; state 0 = 0; state 2 = 0");
        check.run("11 role 3", "6 1 5", PAIR, "role 5 = 3; state 5 = 0");
    }

    private static void statesByTime(Check check) {
        for (int delay = 1; delay <= 4; delay++) {
            for (int since = 0; since < 3; since++) {
                stateByTime(check, delay, since);
            }
        }
        check.run("11 role 1 counts on from role 2", "6 3 5",
                "bridge 1; bridge 0; tick 5; wire 0 4 1; role 0 = 2; tick 1; role 0 = 1; tick 4",
                "state 0 = 2; tick 1; state 0 = 3");
        check.run("11 role 3 in between", "6 3 5", PAIR,
                "cut 0 1; role 5 = 1; state 5 = 1; tick 2; state 5 = 1; tick 1; state 5 = 2");
        check.run("11 role 0 in between, with no tick", "6 3 5", PAIR,
                "state 0 = 3; cut 0 1; cut 0 0; state 0 = 1");
    }

    private static void stateByTime(Check check, int delay, int since) {
        String title = "11 delay " + delay + " since " + since;
        String plugged = "bridge 0; tick " + since + "; host 0 0";
        String limits = "6 " + delay + " 5";
        check.run(title + ", at once", limits, plugged, "state 0 = 1");
        check.run(title + ", one below the delay", limits, plugged, "tick " + (delay - 1) + "; state 0 = 1");
        check.run(title + ", the delay", limits, plugged, "tick " + delay + "; state 0 = 2");
        check.run(title + ", one below twice that", limits, plugged,
                "tick " + (2 * delay - 1) + "; state 0 = 2");
        check.run(title + ", twice that", limits, plugged, "tick " + 2 * delay + "; state 0 = 3");
        check.run(title + ", ever after", limits, plugged, "tick 60; tick 60; state 0 = 3");
    }

    private static void roots(Check check) {
        check.run("12 below the first bridge", "6 1 5", SIX, "root -1 = -1; root MIN = -1; root 0 = 0");
        check.run("12 beyond the last bridge", "6 1 5", SIX, "root 6 = -1; root MAX = -1; root 5 = 92160");
        check.run("12 a bridge that isn't there yet", "6 1 5",
                "bridge 2; root 1 = -1; bridge 1; root 1 = 18432");
        check.run("12 no offer", "6 1 5",
                "bridge 2; wire 0 1 9; tick 1; root 0 = 32768; tick 30; root 0 = 32768");
        check.run("12 the greatest distance of a tree", "6 1 5", LONG_ROW,
                "tick 60; root 0 = 0; root 4 = 72; root 5 = 90");
        check.run("12 the greatest distance, marked", "6 1 5", LONG_ROW,
                "tick 60; host 1 0; tick 6 = 66; root 0 = 1; root 4 = 73; root 5 = 90; tick 1; root 5 = 91");
        check.run("12 the greatest root", "6 1 5",
                "bridge 7; bridge 7; bridge 7; bridge 7; bridge 7; bridge 7; root 5 = 124928; wire 16 20 9",
                "tick 1",
                "root 5 = 122898");
    }

    private static void heldOfPlaces(Check check) {
        check.run("13 below the first place", "6 1 5", PAIR,
                "held -1 0 = -1; held -4 0 = -1; held MIN 0 = -1");
        check.run("13 beyond the last place", "6 1 5", PAIR,
                "held 8 0 = -1; held 24 0 = -1; held MAX 0 = -1");
        check.run("13 the last place", "6 1 5", SIX,
                "wire 3 23 1; tick 1; held 23 0 = 0; held 3 0 = 45; held 22 0 = -1");
        check.run("13 plugged to nothing", "6 1 5", PAIR, "held 2 0 = -1; held 2 5 = -1");
        check.run("13 plugged to a host", "6 1 5",
                "bridge 0; host 0 0; tick 9; held 0 0 = -1; held 0 4 = -1");
        check.run("13 plugged to the router", "6 1 5",
                "bridge 0; router 0; tick 9; held 0 0 = -1; held 0 4 = -1");
        check.run("13 before the first tick", "6 1 5",
                "bridge 0; bridge 1; wire 0 4 1; held 4 0 = -1; held 4 4 = -1");
        check.run("13 no more, on a wire that is whole", "6 1 5", PAIR,
                "held 0 0 = -1; held 0 1 = -1; held 0 2 = -1; held 0 3 = -1",
                "held 0 4 = -1; held 0 5 = -1");
        check.run("13 no more, for the wire is cut", "6 1 5", PAIR,
                "held 4 0 = 0; cut 0 1; held 4 0 = -1; held 4 4 = -1");
    }

    private static void partsOfHeld(Check check) {
        check.run("13 what is below 0", "6 1 5", PAIR, "held 4 -1 = -1; held 4 MIN = -1; held 5 -1 = -1");
        check.run("13 what is above 5", "6 1 5", PAIR, "held 4 6 = -1; held 4 7 = -1; held 4 MAX = -1");
        check.run("13 the first and the last part", "6 1 5", PAIR, "held 4 0 = 0; held 4 5 = 0");
        check.run("13 the least message", "6 1 5", "bridge 0; bridge 0; wire 0 4 1; tick 1",
                "held 4 0 = 0; held 4 1 = 0; held 4 2 = 0; held 4 3 = 0; held 4 4 = 0; held 4 5 = 0");
        check.run("13 the last port", "6 1 5",
                "bridge 0; bridge 0; wire 3 4 1; tick 1; held 4 3 = 3; held 3 3 = 0");
        check.run("13 the greatest sender", "6 1 5",
                "bridge 7; bridge 7; bridge 7; bridge 7; bridge 7; bridge 7; wire 3 23 9; tick 1",
                "held 3 0 = 61; held 3 2 = 61");
        check.run("13 the mark comes and goes", "6 1 5",
                "bridge 0; bridge 1; wire 0 4 1; tick 2; held 4 5 = 0; tick 1; held 4 5 = 1; tick 7 = 10",
                "held 4 5 = 1",
                "tick 1 = 11; held 4 5 = 0");
    }
}
