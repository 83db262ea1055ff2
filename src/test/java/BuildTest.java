/** Promises 1 to 8: a new object, what is plugged, the networks of ports, and cuts. */
public final class BuildTest {
    private static final String LEAST = "-2147483648";
    private static final String MOST = "2147483647";

    public static void main(String[] args) {
        Check check = new Check();
        newObject(check);
        limits(check);
        bridges(check);
        wires(check);
        hosts(check);
        routers(check);
        accessPorts(check);
        trunks(check);
        membersOfTrunks(check);
        cuts(check);
        check.end();
    }

    private static void newObject(Check check) {
        check.run("1 empty", "6 1 5",
                "tick 0 = 0; role 0 = -1; state 0 = -1; root 0 = -1; held 0 0 = -1",
                "learned 0 0 0 = -1; entries 0 = -1; answer = 0; crossings = 0",
                "send 0 -1 = -1; ask 0 0 1 = -1; cut 0 1 = 0; wire 0 1 1 = -1; host 0 0 = -1",
                "router 0 = 0; access 0 0 = 0; trunk 0 0 15 = 0; tick 1 = 1");
    }

    /** Both ends send in the first tick; the worse message is not renewed, and so tells the limit. */
    private static void limits(Check check) {
        String pair = "bridge 0; bridge 1; wire 0 4 1";
        check.run("1 least limit", LEAST + " 1 5", pair, "tick 6; held 0 4 = 5; tick 1; held 0 4 = -1");
        check.run("1 limit 5", "5 1 5", pair, "tick 6; held 0 4 = 5; tick 1; held 0 4 = -1");
        check.run("1 limit 9", "9 1 5", pair, "tick 9; held 0 4 = 8; tick 1; held 0 4 = -1");
        check.run("1 limit 13", "13 1 5", pair, "tick 12; held 0 4 = 11; tick 1; held 0 4 = -1");
        check.run("1 most limit", MOST + " 1 5", pair, "tick 12; held 0 4 = 11; tick 1; held 0 4 = -1");

        String one = "bridge 0; host 0 0; state 0 = 1";
        check.run("1 least delay", "6 " + LEAST + " 5", one, "tick 1; state 0 = 2; tick 1; state 0 = 3");
        check.run("1 delay 0", "6 0 5", one, "tick 1; state 0 = 2; tick 1; state 0 = 3");
        check.run("1 delay 3", "6 3 5", one,
                "tick 2; state 0 = 1; tick 1; state 0 = 2; tick 2; state 0 = 2; tick 1; state 0 = 3");
        check.run("1 delay 5", "6 5 5", one,
                "tick 3; state 0 = 1; tick 1; state 0 = 2; tick 3; state 0 = 2; tick 1; state 0 = 3");
        check.run("1 most delay", "6 " + MOST + " 5", one, "tick 7; state 0 = 2; tick 1; state 0 = 3");

        String quiet = "bridge 0; host 0 0; tick 30; send 0 -1 = 0; entries 0 = 1";
        check.run("1 least memory", "6 1 " + LEAST, quiet, "tick 4; entries 0 = 1; tick 1; entries 0 = 0");
        check.run("1 memory 4", "6 1 4", quiet, "tick 4; entries 0 = 1; tick 1; entries 0 = 0");
        check.run("1 memory 17", "6 1 17", quiet, "tick 16; entries 0 = 1; tick 1; entries 0 = 0");
        check.run("1 memory 41", "6 1 41", quiet, "tick 39; entries 0 = 1; tick 1; entries 0 = 0");
        check.run("1 most memory", "6 1 " + MOST, quiet, "tick 39; entries 0 = 1; tick 1; entries 0 = 0");
    }

    private static void bridges(Check check) {
        check.run("2 numbers", "6 1 5",
                "bridge -1 = -1; bridge 8 = -1; bridge " + LEAST + " = -1; bridge " + MOST + " = -1",
                "root 0 = -1; bridge 0 = 0; bridge 7 = 1; bridge 3 = 2; bridge 3 = 3; bridge 1 = 4",
                "bridge 8 = -1; bridge 7 = 5; bridge 0 = -1; root 6 = -1",
                "root 0 = 0; root 1 = 116736; root 2 = 53248; root 3 = 55296; root 5 = 124928");
        check.run("2 ports", "6 1 5",
                "role 0 = -1; bridge 4 = 0; role 0 = 0; state 3 = 0; role 4 = -1; entries 0 = 0",
                "host 0 3; host 1 2; tick 2; send 0 -1 = 2; learned 0 0 0 = 0; entries 0 = 1");
    }

    private static void wires(Check check) {
        check.run("3 refusals", "6 1 5",
                "bridge 0; bridge 0; wire 0 4 0 = -1; wire 0 4 10 = -1; wire 0 4 -1 = -1",
                "wire 0 0 1 = -1; wire -1 0 1 = -1; wire 0 -1 1 = -1; wire 8 0 1 = -1; wire 0 8 1 = -1",
                "wire 0 24 1 = -1; wire " + MOST + " " + LEAST + " 1 = -1",
                "role 0 = 0; wire 0 4 9 = 0; role 0 = 2; role 4 = 2; role 1 = 0",
                "wire 0 5 1 = -1; wire 5 0 1 = -1; wire 4 5 1 = -1; role 5 = 0",
                "host 1 0 = 0; wire 1 5 1 = -1; router 2 = 1; wire 5 2 1 = -1",
                "wire 5 6 1 = 1; wire 3 7 1 = 2");
        check.run("3 ten of them", "6 1 5",
                "bridge 0; bridge 0; bridge 0; bridge 0; bridge 0; bridge 0",
                "wire 0 4 1 = 0; wire 1 5 1 = 1; wire 2 6 1 = 2; wire 3 7 1 = 3; wire 8 9 1 = 4",
                "wire 10 11 1 = 5; wire 12 16 1 = 6; wire 13 17 1 = 7; wire 14 18 1 = 8",
                "wire 15 19 10 = -1; wire 15 19 1 = 9; wire 20 21 1 = -1; role 20 = 0");
        check.run("3 plugged though cut", "6 1 5",
                "bridge 0; wire 0 1 1 = 0; cut 0 1 = 1; wire 0 2 1 = -1; wire 2 1 1 = -1; wire 2 3 1 = 1");
        check.run("3 cost", "6 1 5",
                "bridge 0; bridge 1; wire 3 6 9 = 0; tick 1; root 1 = 18; role 6 = 1; role 3 = 2");
    }

    private static void hosts(Check check) {
        check.run("4 refusals", "6 1 5",
                "bridge 0; host -1 0 = -1; host 4 0 = -1; host 24 0 = -1; host 0 -1 = -1; host 0 4 = -1",
                "role 0 = 0; wire 0 1 1; host 0 0 = -1; host 1 0 = -1; router 2; host 2 0 = -1",
                "host 3 3 = 0; host 3 3 = -1; role 3 = 2; state 3 = 1; bridge 0; host 4 0 = 1");
        check.run("4 six of them", "6 1 5",
                "bridge 0; bridge 0; host 0 0 = 0; host 1 1 = 1; host 2 2 = 2; host 3 3 = 3; host 4 0 = 4",
                "host 5 4 = -1; send 0 5 = -1; host 5 0 = 5; host 6 0 = -1; role 6 = 0; tick 2",
                "send 0 -1 = 14; send 4 -1 = 32");
    }

    private static void routers(Check check) {
        check.run("5 router", "6 1 5",
                "bridge 0; router -1 = 0; router 4 = 0; router 24 = 0; host 0 0; wire 1 2 1",
                "router 0 = 0; router 1 = 0; router 2 = 0; send 0 6 = -1; router 3 = 1; role 3 = 2",
                "state 3 = 1; send 0 6 = 0; router 3 = 0; bridge 0; router 4 = 0; role 4 = 0",
                "tick 3; send 0 6 = 64; wire 3 4 1 = -1; host 3 0 = -1");
    }

    private static void accessPorts(Check check) {
        check.run("6 access", "6 1 5",
                "bridge 0; host 0 0; host 1 0; host 2 0; tick 20; send 0 -1 = 6",
                "access 1 2 = 1; send 0 -1 = 4; access 0 2 = 1; send 0 -1 = 2; learned 0 2 0 = 0",
                "learned 0 0 0 = 0; entries 0 = 2; access 2 3 = 1; send 2 -1 = 0",
                "access -1 0 = 0; access 4 0 = 0; access 0 -1 = 0; access 0 4 = 0; send 0 -1 = 2",
                "access 3 1 = 1; role 3 = 0");
        check.run("6 access after trunk", "6 1 5",
                "bridge 0; host 0 0; host 1 0; tick 2; trunk 1 3 15; send 0 -1 = 0; crossings = 1",
                "access 1 0 = 1; send 0 -1 = 2; access 1 3; send 0 -1 = 0; crossings = 0");
    }

    private static void trunks(Check check) {
        check.run("7 trunk", "6 1 5",
                "bridge 0; host 0 0; host 1 0; tick 20",
                "trunk 1 1 15 = 1; send 0 1 = 0; crossings = 1; trunk 1 0 15 = 1; send 0 1 = 2",
                "trunk 1 0 14 = 1; send 0 1 = 0; crossings = 0; trunk 1 2 0 = 1; send 0 1 = 0",
                "crossings = 0; entries 0 = 1; send 1 0 = 0; entries 0 = 1",
                "trunk 1 2 1 = 1; send 1 0 = 0; entries 0 = 1; trunk 1 2 4 = 1; send 1 0 = 0",
                "learned 0 2 1 = 1; entries 0 = 2");
        check.run("7 refusals", "6 1 5",
                "bridge 0; host 0 0; host 1 0; tick 20; send 0 1 = 2; trunk -1 0 15 = 0; trunk 4 0 15 = 0",
                "trunk 1 -1 15 = 0; trunk 1 4 15 = 0; trunk 1 1 -1 = 0; trunk 1 1 16 = 0",
                "trunk 1 1 " + LEAST + " = 0; trunk 1 " + MOST + " 15 = 0; send 0 1 = 2",
                "trunk 3 3 0 = 1; role 3 = 0; trunk 1 0 1 = 1; send 0 1 = 2");
    }

    /** A frame of each network meets a trunk with one member alone. */
    private static void membersOfTrunks(Check check) {
        for (int member = 0; member < 4; member++) {
            for (int network = 0; network < 4; network++) {
                int wanted = member == network ? 2 : 0;
                int other = (member + 1) % 4;
                check.run("7 network " + network + " of member " + member, "6 1 5",
                        "bridge 0; bridge 0; wire 0 4 1; host 1 0; host 5 0; tick 20",
                        "trunk 0 " + other + " " + (1 << member) + " = 1",
                        "trunk 4 " + other + " 15 = 1; access 1 " + network + "; access 5 " + network,
                        "send 0 1 = " + wanted + "; crossings = " + wanted);
            }
        }
    }

    private static void cuts(Check check) {
        check.run("8 refusals", "6 1 5",
                "bridge 0; bridge 1; cut 0 1 = 0; wire 0 4 1; cut 0 0 = 0; cut 1 1 = 0; cut -1 1 = 0",
                "cut " + MOST + " 1 = 0; role 0 = 2; cut 0 1 = 1; role 0 = 0; role 4 = 0; cut 0 1 = 0",
                "cut 0 0 = 1; role 0 = 2; role 4 = 2; state 0 = 1; cut 0 0 = 0");
        check.run("8 messages go", "6 1 5",
                "bridge 0; bridge 1; wire 0 4 1; wire 1 5 1; tick 1; held 0 0 = 9; held 4 0 = 0",
                "cut 0 1 = 1; held 0 0 = -1; held 4 0 = -1; held 1 0 = 9; held 5 0 = 0; root 1 = 2",
                "role 5 = 1; cut 0 0 = 1; held 4 0 = -1; role 4 = 2");
        check.run("8 what was learned stays", "6 1 5",
                "bridge 0; bridge 1; wire 0 4 1; host 1 0; host 5 0; tick 30; send 0 -1 = 2",
                "learned 1 0 0 = 0; cut 0 1 = 1; learned 1 0 0 = 0; entries 0 = 1; send 1 0 = 0",
                "crossings = 0; cut 0 0 = 1; learned 1 0 0 = 0");
        check.run("8 the other cut is its own", "6 1 5",
                "bridge 0; wire 0 1 1; wire 2 3 1; cut 1 1 = 1; role 0 = 2; role 2 = 0; cut 0 1 = 1",
                "role 0 = 0; cut 1 0 = 1; role 2 = 2; role 3 = 2; role 0 = 0");
    }
}
