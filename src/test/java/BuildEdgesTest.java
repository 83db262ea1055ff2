/** Promises 1 to 8 at their edges: each sentence that names one has a run of its own. */
public final class BuildEdgesTest {
    private static final String SIX = "bridge 0; bridge 1; bridge 2; bridge 3; bridge 4; bridge 5";

    /** Place 0 has a host, 1 the router, 2 and 4 a wire, 3 and 5 a cut one; 6 and 7 are free. */
    private static final String PLUGGED =
            "bridge 0; bridge 1; host 0 0; router 1; wire 2 4 1; wire 3 5 1; cut 1 1";

    /** As PLUGGED, but with the place of the router free. */
    private static final String NO_ROUTER =
            "bridge 0; bridge 1; host 0 0; wire 2 4 1; wire 3 5 1; cut 1 1";

    public static void main(String[] args) {
        Check check = new Check();
        nothingIsThere(check);
        limits(check);
        delays(check);
        memories(check);
        bridges(check);
        wires(check);
        endsOfWires(check);
        hosts(check);
        routers(check);
        accessPorts(check);
        trunks(check);
        cuts(check);
        refusedCuts(check);
        check.end();
    }

    private static void nothingIsThere(Check check) {
        check.run("1 time 0", "6 1 5", "tick 0 = 0");
        check.run("1 time passes without bridges", "6 1 5", "tick 1 = 1; tick 60 = 61");
        check.run("1 no bridge", "6 1 5", "root 0 = -1; entries 0 = -1; learned 0 0 0 = -1");
        check.run("1 no place", "6 1 5", "role 0 = -1; state 0 = -1; held 0 0 = -1");
        check.run("1 no place to plug to", "6 1 5", "wire 0 1 1 = -1; host 0 0 = -1; router 0 = 0");
        check.run("1 no port to change", "6 1 5", "access 0 0 = 0; trunk 0 0 15 = 0");
        check.run("1 no wire", "6 1 5", "cut 0 0 = 0; cut 0 1 = 0");
        check.run("1 no host", "6 1 5", "send 0 -1 = -1; ask 0 0 1 = -1");
    }

    private static void limits(Check check) {
        for (String tooSmall : new String[] {"MIN", "-1", "0", "5"}) {
            limitBecomes(check, tooSmall, 6);
        }
        for (int limit = 6; limit <= 12; limit++) {
            limitBecomes(check, Integer.toString(limit), limit);
        }
        for (String tooLarge : new String[] {"13", "100", "MAX"}) {
            limitBecomes(check, tooLarge, 12);
        }
    }

    /** Both ends send in the first tick; the worse message is not renewed, and so tells the limit. */
    private static void limitBecomes(Check check, String given, int limit) {
        check.run("1 limit " + given + " becomes " + limit, given + " 1 5",
                "bridge 0; bridge 1; wire 0 4 1; tick " + limit,
                "held 0 4 = " + (limit - 1) + "; tick 1; held 0 4 = -1");
        // Marked from 3 on, UNTIL 3 + limit + 1.
        check.run("1 UNTIL with limit " + given, given + " 1 5",
                "bridge 0; host 0 0; tick 2; root 0 = 0; tick 1; root 0 = 1",
                "tick " + limit + "; root 0 = 1; tick 1; root 0 = 0");
    }

    private static void delays(Check check) {
        for (String tooSmall : new String[] {"MIN", "-1", "0"}) {
            delayBecomes(check, tooSmall, 1);
        }
        for (int delay = 1; delay <= 4; delay++) {
            delayBecomes(check, Integer.toString(delay), delay);
        }
        for (String tooLarge : new String[] {"5", "100", "MAX"}) {
            delayBecomes(check, tooLarge, 4);
        }
    }

    private static void delayBecomes(Check check, String given, int delay) {
        String title = "1 delay " + given + " becomes " + delay;
        String almost = "tick " + (delay - 1) + ";";
        check.run(title, "6 " + given + " 5",
                "bridge 0; host 0 0; state 0 = 1", almost + "state 0 = 1; tick 1; state 0 = 2",
                almost + "state 0 = 2; tick 1; state 0 = 3");
        check.run(title + ", in UNTIL", "6 " + given + " 5",
                "bridge 0; host 0 0; tick " + 2 * delay + "; root 0 = 0; tick 1; root 0 = 1",
                "tick " + (5 + delay) + "; root 0 = 1; tick 1; root 0 = 0");
        check.run(title + ", in what a marked bridge forgets", "6 " + given + " 40",
                "bridge 0; host 0 0; tick " + 2 * delay + "; send 0 -1 = 0",
                almost + "entries 0 = 1; tick 1; root 0 = 1; entries 0 = 0");
    }

    private static void memories(Check check) {
        for (String tooSmall : new String[] {"MIN", "-1", "0", "4"}) {
            memoryBecomes(check, tooSmall, 5);
        }
        for (int memory = 5; memory <= 40; memory++) {
            memoryBecomes(check, Integer.toString(memory), memory);
        }
        for (String tooLarge : new String[] {"41", "100", "MAX"}) {
            memoryBecomes(check, tooLarge, 40);
        }
    }

    private static void memoryBecomes(Check check, String given, int memory) {
        check.run("1 memory " + given + " becomes " + memory, "6 1 " + given,
                "bridge 0; host 0 0; tick 30; send 0 -1 = 0; entries 0 = 1",
                "tick " + (memory - 1) + "; entries 0 = 1; tick 1; entries 0 = 0");
    }

    private static void bridges(Check check) {
        check.run("2 six", "6 1 5",
                "bridge 5 = 0; bridge 4 = 1; bridge 3 = 2; bridge 2 = 3; bridge 1 = 4; bridge 0 = 5");
        check.refusals("2 there are six", SIX, "root 6 = -1; role 24 = -1; root 5 = 92160",
                "bridge 0 = -1", "bridge 7 = -1", "bridge 8 = -1", "bridge -1 = -1");
        check.refusals("2 priority isn't 0 .. 7", "bridge 1", "root 1 = -1; role 4 = -1; bridge 1 = 1",
                "bridge -1 = -1", "bridge 8 = -1", "bridge MIN = -1", "bridge MAX = -1");
        check.run("2 the least priority", "6 1 5", "bridge 0 = 0; root 0 = 0");
        check.run("2 the greatest priority", "6 1 5", "bridge 7 = 0; root 0 = 114688");
        check.run("2 the greatest ID", "6 1 5",
                "bridge 7; bridge 7; bridge 7; bridge 7; bridge 7; bridge 7 = 5; root 5 = 124928");
        check.run("2 a port of a new bridge has network 0 alone", "6 1 5",
                "bridge 0; host 0 3; host 1 0; access 1 1; tick 30; send 0 -1 = 0; learned 0 0 0 = 0",
                "access 1 0; send 0 -1 = 2");
        check.run("2 a port of a new bridge takes no tag", "6 1 5",
                "bridge 0; bridge 1; wire 0 4 1; host 1 0; host 5 0; tick 30; trunk 0 1 15",
                "send 0 1 = 0; crossings = 1; entries 1 = 0; trunk 4 1 15; send 0 1 = 2");
        check.run("2 a bridge that comes late", "6 1 5",
                "tick 60; bridge 1; root 0 = 16384; entries 0 = 0; role 0 = 0; state 0 = 0",
                "tick 60; bridge 0; root 1 = 2048; tick 1; root 0 = 16384; root 1 = 2048");
    }

    private static void wires(Check check) {
        check.run("3 ten", "6 1 5", SIX,
                "wire 0 1 1 = 0; wire 2 3 1 = 1; wire 4 5 1 = 2; wire 6 7 1 = 3; wire 8 9 1 = 4",
                "wire 10 11 1 = 5; wire 12 13 1 = 6; wire 14 15 1 = 7; wire 16 17 1 = 8",
                "wire 18 19 1 = 9; role 18 = 2; role 19 = 2; wire 20 21 1 = -1; role 20 = 0; role 21 = 0",
                "cut 9 1 = 1; wire 20 21 1 = -1; cut 10 1 = 0; host 20 0 = 0; router 21 = 1");
        check.run("3 the first and the last place", "6 1 5", SIX, "wire 0 23 1 = 0; role 0 = 2; role 23 = 2");
        check.run("3 two places of one bridge", "6 1 5", "bridge 0; wire 3 0 1 = 0; role 0 = 2; role 3 = 2");
        check.refusals("3 both are the same", "bridge 0", "role 0 = 0; role 3 = 0; wire 0 3 1 = 0",
                "wire 0 0 1 = -1", "wire 3 3 1 = -1");
        check.refusals("3 cost isn't 1 .. 9", "bridge 0; bridge 1",
                "role 0 = 0; role 4 = 0; cut 0 1 = 0; wire 0 4 3 = 0; tick 1; root 1 = 6",
                "wire 0 4 0 = -1", "wire 0 4 -1 = -1", "wire 0 4 10 = -1", "wire 0 4 MIN = -1",
                "wire 0 4 MAX = -1");
        check.run("3 the least cost", "6 1 5", "bridge 0; bridge 1; wire 0 4 1 = 0; tick 1; root 1 = 2");
        check.run("3 the greatest cost", "6 1 5", "bridge 0; bridge 1; wire 0 4 9 = 0; tick 1; root 1 = 18");
    }

    private static void endsOfWires(Check check) {
        String free = "role 0 = 0; role 7 = 0; wire 0 7 1 = 0; role 0 = 2; role 7 = 2";
        check.refusals("3 p isn't a place of a bridge", "bridge 0; bridge 1", free,
                "wire -1 0 1 = -1", "wire 8 0 1 = -1", "wire 23 0 1 = -1", "wire 24 0 1 = -1",
                "wire MIN 0 1 = -1", "wire MAX 0 1 = -1");
        check.refusals("3 q isn't a place of a bridge", "bridge 0; bridge 1", free,
                "wire 0 -1 1 = -1", "wire 0 8 1 = -1", "wire 0 23 1 = -1", "wire 0 24 1 = -1",
                "wire 0 MIN 1 = -1", "wire 0 MAX 1 = -1", "wire 8 9 1 = -1", "wire -1 -1 1 = -1");
        String after = "role 6 = 0; role 0 = 2; role 1 = 2; role 2 = 2; role 3 = 0; wire 6 7 1 = 2";
        check.refusals("3 p is plugged", PLUGGED, after,
                "wire 0 6 1 = -1", "wire 1 6 1 = -1", "wire 2 6 1 = -1", "wire 3 6 1 = -1");
        check.refusals("3 q is plugged", PLUGGED, after,
                "wire 6 0 1 = -1", "wire 6 1 1 = -1", "wire 6 2 1 = -1", "wire 6 3 1 = -1",
                "wire 6 4 1 = -1", "wire 6 5 1 = -1", "wire 2 4 1 = -1", "wire 0 1 1 = -1");
    }

    private static void hosts(Check check) {
        check.run("4 six", "6 1 5", "bridge 0; bridge 1",
                "host 0 0 = 0; host 1 1 = 1; host 2 2 = 2; host 3 3 = 3; host 4 0 = 4; host 5 0 = 5",
                "host 6 0 = -1; role 6 = 0; wire 6 7 1 = 0; send 6 -1 = -1; send 0 5 = 0");
        check.run("4 the first and the last place", "6 1 5", SIX, "host 0 0 = 0; host 23 0 = 1; role 23 = 2");
        check.refusals("4 p isn't a place of a bridge", "bridge 0", "send 0 -1 = -1; host 3 0 = 0",
                "host -1 0 = -1", "host 4 0 = -1", "host 23 0 = -1", "host 24 0 = -1", "host MIN 0 = -1",
                "host MAX 0 = -1");
        check.refusals("4 p is plugged", PLUGGED, "send 1 -1 = -1; host 6 0 = 1",
                "host 0 0 = -1", "host 1 0 = -1", "host 2 0 = -1", "host 3 0 = -1", "host 4 0 = -1",
                "host 5 0 = -1");
        check.refusals("4 subnet isn't 0 .. 3", "bridge 0", "role 0 = 0; send 0 -1 = -1; host 0 0 = 0",
                "host 0 -1 = -1", "host 0 4 = -1", "host 0 MIN = -1", "host 0 MAX = -1");
        // Hosts of two subnets can't ask one another while there is no router.
        check.run("4 the least and the greatest subnet", "6 1 5",
                "bridge 0; host 0 0 = 0; host 1 3 = 1; host 2 3 = 2; host 3 0 = 3; tick 30",
                "ask 0 1 1 = -1; ask 2 1 1 = 4; ask 0 3 1 = 4");
    }

    private static void routers(Check check) {
        check.run("5 the first place", "6 1 5", SIX, "router 0 = 1; role 0 = 2");
        check.run("5 the last place", "6 1 5", SIX, "router 23 = 1; role 23 = 2");
        check.refusals("5 it is plugged already", PLUGGED, "role 6 = 0; role 1 = 2; host 6 0 = 1",
                "router 6 = 0", "router 1 = 0", "router 0 = 0", "router -1 = 0", "router 24 = 0");
        check.refusals("5 p isn't a place of a bridge", "bridge 0; host 0 0",
                "send 0 6 = -1; router 3 = 1; send 0 6 = 0", "router -1 = 0", "router 4 = 0",
                "router 23 = 0", "router 24 = 0", "router MIN = 0", "router MAX = 0");
        check.refusals("5 p is plugged", NO_ROUTER, "send 0 6 = -1; router 1 = 1; role 1 = 2",
                "router 0 = 0", "router 2 = 0", "router 3 = 0", "router 4 = 0", "router 5 = 0");
    }

    private static void accessPorts(Check check) {
        String pair = "bridge 0; host 0 0; host 1 0; tick 30; trunk 0 3 15; access 1 3";
        String asBefore = "send 0 1 = 2; learned 0 3 0 = 0; entries 0 = 1";
        check.refusals("6 p isn't a place of a bridge", pair, asBefore,
                "access -1 0 = 0", "access 4 0 = 0", "access 23 0 = 0", "access 24 0 = 0", "access MIN 0 = 0",
                "access MAX 0 = 0");
        check.refusals("6 network isn't 0 .. 3", pair, asBefore,
                "access 0 -1 = 0", "access 0 4 = 0", "access 1 -1 = 0", "access 1 4 = 0", "access 0 MIN = 0",
                "access 1 MAX = 0");
        check.run("6 the least and the greatest network", "6 1 5", pair,
                "access 1 0 = 1; send 1 0 = 0; learned 0 0 1 = 1; access 1 3 = 1; send 1 0 = 1",
                "learned 0 3 1 = 1");
        check.run("6 the last place", "6 1 5", SIX,
                "host 23 0; host 22 0; tick 30; access 23 2 = 1; send 1 0 = 0");
        check.run("6 a port that is plugged to nothing", "6 1 5",
                "bridge 0; access 0 2 = 1; role 0 = 0; host 0 0; host 1 0; tick 30; send 0 -1 = 0",
                "learned 0 2 0 = 0");
        check.run("6 the same once more", "6 1 5", pair, "access 1 3 = 1; access 1 3 = 1", asBefore);
    }

    private static void trunks(Check check) {
        String pair = "bridge 0; host 0 0; host 1 0; tick 30; access 0 2; trunk 1 2 4";
        String asBefore = "send 0 1 = 2; send 1 0 = 1; learned 0 2 0 = 0; learned 0 2 1 = 1; entries 0 = 2";
        check.refusals("7 p isn't a place of a bridge", pair, asBefore,
                "trunk -1 0 15 = 0", "trunk 4 0 15 = 0", "trunk 23 0 15 = 0", "trunk 24 0 15 = 0",
                "trunk MIN 0 15 = 0", "trunk MAX 0 15 = 0");
        check.refusals("7 native isn't 0 .. 3", pair, asBefore,
                "trunk 0 -1 15 = 0", "trunk 1 -1 15 = 0", "trunk 0 4 15 = 0", "trunk 1 4 15 = 0",
                "trunk 1 MIN 15 = 0", "trunk 1 MAX 15 = 0");
        check.refusals("7 members isn't 0 .. 15", pair, asBefore,
                "trunk 0 0 -1 = 0", "trunk 1 0 -1 = 0", "trunk 0 0 16 = 0", "trunk 1 0 16 = 0",
                "trunk 1 0 MIN = 0", "trunk 1 0 MAX = 0");
        check.run("7 the least and the greatest native network", "6 1 5", pair,
                "trunk 1 0 15 = 1; send 1 0 = 0; learned 0 0 1 = 1; trunk 1 3 15 = 1; send 1 0 = 0",
                "learned 0 3 1 = 1");
        check.run("7 no members", "6 1 5", pair,
                "trunk 1 2 0 = 1; send 0 1 = 0; crossings = 0; send 1 0 = 0; learned 0 2 1 = -1; role 1 = 2");
        check.run("7 all members", "6 1 5", pair, "trunk 1 2 15 = 1", asBefore);
        check.run("7 native isn't a member", "6 1 5", pair,
                "trunk 1 2 11 = 1; send 0 1 = 0; crossings = 0; send 1 0 = 0; learned 0 2 1 = -1");
        check.run("7 the last place", "6 1 5", SIX,
                "host 23 0; host 22 0; tick 30; trunk 23 1 15 = 1; send 1 0 = 0");
        check.run("7 a port that is plugged to nothing", "6 1 5",
                "bridge 0; trunk 0 2 15 = 1; role 0 = 0; host 0 0; tick 30; send 0 -1 = 0",
                "learned 0 2 0 = 0");
        check.run("7 the same once more", "6 1 5", pair, "trunk 1 2 4 = 1; trunk 1 2 4 = 1", asBefore);
    }

    private static void cuts(Check check) {
        check.run("8 its ports hold no messages then", "6 1 5",
                "bridge 0; bridge 1; wire 0 4 1; wire 1 5 1; tick 1; cut 0 1 = 1; held 0 0 = -1",
                "held 4 0 = -1",
                "held 1 0 = 9; held 5 0 = 0");
        check.run("8 nor when it is made whole", "6 1 5",
                "bridge 0; bridge 1; wire 0 4 1; tick 1; cut 0 1; cut 0 0 = 1; held 0 0 = -1; held 4 0 = -1",
                "root 1 = 18432; role 4 = 2; tick 1; held 4 0 = 0");
        check.run("8 no message goes over a cut wire", "6 1 5",
                "bridge 0; bridge 1; wire 0 4 1; cut 0 1 = 1; tick 3; held 0 0 = -1; held 4 0 = -1",
                "root 1 = 18432");
        check.run("8 before the first tick", "6 1 5",
                "bridge 0; wire 0 1 1; cut 0 1 = 1; role 0 = 0; state 0 = 0; cut 0 0 = 1; role 0 = 2",
                "state 0 = 1");
        check.run("8 the last of ten", "6 1 5", SIX,
                "wire 0 1 1; wire 2 3 1; wire 4 5 1; wire 6 7 1; wire 8 9 1; wire 10 11 1; wire 12 13 1",
                "wire 14 15 1; wire 16 17 1; wire 18 19 1 = 9; cut 9 1 = 1; role 18 = 0; role 19 = 0",
                "role 16 = 2");
        check.run("8 a wire within one bridge", "6 1 5",
                "bridge 0; wire 0 3 1; tick 5; role 3 = 3; held 3 3 = 0; cut 0 1 = 1; held 3 3 = -1",
                "role 0 = 0; role 3 = 0");
        check.run("8 what was learned stays", "6 1 40",
                "bridge 0; bridge 1; wire 0 4 1; host 1 0; host 5 0; tick 30; send 0 1 = 2",
                "learned 1 0 0 = 0",
                "cut 0 1 = 1; learned 1 0 0 = 0; entries 1 = 1; cut 0 0 = 1; learned 1 0 0 = 0",
                "entries 1 = 1");
    }

    private static void refusedCuts(Check check) {
        String wired = "bridge 0; bridge 1; wire 0 4 1; wire 1 5 1; cut 1 1; tick 2";
        // A port that lost its message or its state would tell.
        String asBefore = "held 0 0 = 9; held 0 4 = 1; held 4 0 = 0; role 4 = 1; state 0 = 3; state 4 = 3; role 1 = 0";
        check.refusals("8 there is none", wired, asBefore,
                "cut -1 1 = 0", "cut 2 1 = 0", "cut 9 1 = 0", "cut 10 1 = 0", "cut MIN 1 = 0",
                "cut MAX 1 = 0",
                "cut -1 0 = 0", "cut 2 0 = 0", "cut 9 0 = 0", "cut 10 0 = 0", "cut MIN 0 = 0",
                "cut MAX 0 = 0");
        check.refusals("8 it is that already", wired, asBefore, "cut 0 0 = 0", "cut 1 1 = 0");
        check.run("8 it was made whole already", "6 1 5", wired,
                "cut 1 0 = 1; tick 1; held 5 0 = 0; cut 1 0 = 0; held 5 0 = 0; state 1 = 2; role 5 = 3");
    }
}
