/** Promises 2 to 8: what is plugged, the networks of ports, and cuts. Promise 1 is all edges. */
public final class BuildTest {
    public static void main(String[] args) {
        Check check = new Check();
        bridges(check);
        wires(check);
        hosts(check);
        routers(check);
        accessPorts(check);
        trunks(check);
        membersOfTrunks(check);
        cuts(check);
        check.end();
    }

    private static void bridges(Check check) {
        check.run("2 numbers", "6 1 5",
                "bridge 0 = 0; bridge 7 = 1; bridge 3 = 2; bridge 3 = 3; bridge 1 = 4; bridge 7 = 5",
                "root 0 = 0; root 1 = 116736; root 2 = 53248; root 3 = 55296; root 5 = 124928");
        check.run("2 ports", "6 1 5",
                "bridge 4 = 0; role 0 = 0; state 3 = 0; entries 0 = 0",
                "host 0 3; host 1 2; tick 2; send 0 -1 = 2; learned 0 0 0 = 0; entries 0 = 1");
    }

    private static void wires(Check check) {
        check.run("3 numbers", "6 1 5",
                "bridge 0; bridge 0; role 0 = 0; wire 0 4 9 = 0; role 0 = 2; role 4 = 2; role 1 = 0",
                "wire 5 6 1 = 1; wire 3 7 1 = 2; role 5 = 2; role 6 = 2; role 7 = 2");
        check.run("3 cost", "6 1 5",
                "bridge 0; bridge 1; wire 3 6 5 = 0; tick 1; root 1 = 10; role 6 = 1; role 3 = 2");
        check.run("3 plugged though cut", "6 1 5",
                "bridge 0; wire 0 1 1 = 0; cut 0 1 = 1; wire 0 2 1 = -1; wire 2 1 1 = -1; wire 2 3 1 = 1");
    }

    private static void hosts(Check check) {
        check.run("4 numbers", "6 1 5",
                "bridge 0; bridge 0; host 3 3 = 0; role 3 = 2; state 3 = 1; host 4 0 = 1; host 0 2 = 2",
                "role 1 = 0",
                "tick 2; send 0 -1 = 4; send 1 -1 = 0; send 2 -1 = 1");
    }

    private static void routers(Check check) {
        check.run("5 router", "6 1 5",
                "bridge 0; host 0 0; send 0 6 = -1; router 3 = 1; role 3 = 2; state 3 = 1; send 0 6 = 0",
                "tick 2",
                "state 3 = 3; send 0 6 = 64; send 0 -1 = 64");
    }

    private static void accessPorts(Check check) {
        check.run("6 access", "6 1 5",
                "bridge 0; host 0 0; host 1 0; host 2 0; tick 20; send 0 -1 = 6",
                "access 1 2 = 1; send 0 -1 = 4; access 0 2 = 1; send 0 -1 = 2; learned 0 2 0 = 0",
                "learned 0 0 0 = 0; entries 0 = 2; access 2 3 = 1; send 2 -1 = 0",
                "send 0 -1 = 2");
        check.run("6 access after trunk", "6 1 5",
                "bridge 0; host 0 0; host 1 0; tick 2; trunk 1 3 15; send 0 -1 = 0; crossings = 1",
                "access 1 0 = 1; send 0 -1 = 2; access 1 3; send 0 -1 = 0; crossings = 0");
    }

    private static void trunks(Check check) {
        check.run("7 trunk", "6 1 5",
                "bridge 0; host 0 0; host 1 0; tick 20",
                "trunk 1 1 15 = 1; send 0 1 = 0; crossings = 1; trunk 1 0 15 = 1; send 0 1 = 2",
                "trunk 1 0 14 = 1; send 0 1 = 0; crossings = 0; trunk 1 2 0 = 1; send 0 1 = 0",
                "crossings = 0; entries 0 = 1; send 1 0 = 0; entries 0 = 1",
                "trunk 1 2 1 = 1; send 1 0 = 0; entries 0 = 1; trunk 1 2 4 = 1; send 1 0 = 0",
                "learned 0 2 1 = 1; entries 0 = 2");
    }

    /** A frame of each network meets a trunk with one member alone. */
    private static void membersOfTrunks(Check check) {
        for (int member = 0; member < 4; member++) {
            for (int network = 0; network < 4; network++) {
                int wanted = member == network ? 2 : 0;
                int other = (member + 1) % 4;
                check.run("7 network " + network + " of member " + member, "6 1 5",
                        "bridge 0; bridge 0; wire 0 4 1; host 1 0; host 5 0; tick 20",
                        "trunk 0 " + other + " " + (1 << member) + " = 1",
                        "trunk 4 " + other + " 15 = 1; access 1 " + network + "; access 5 " + network,
                        "send 0 1 = " + wanted + "; crossings = " + wanted);
            }
        }
    }

    private static void cuts(Check check) {
        check.run("8 cut and whole", "6 1 5",
                "bridge 0; bridge 1; wire 0 4 1; role 0 = 2; cut 0 1 = 1; role 0 = 0; role 4 = 0; tick 3",
                "role 0 = 0",
                "cut 0 0 = 1; role 0 = 2; role 4 = 2; state 0 = 1");
        check.run("8 messages go", "6 1 5",
                "bridge 0; bridge 1; wire 0 4 1; wire 1 5 1; tick 1; held 0 0 = 9; held 4 0 = 0",
                "cut 0 1 = 1; held 0 0 = -1; held 4 0 = -1; held 1 0 = 9; held 5 0 = 0; root 1 = 2",
                "role 5 = 1; cut 0 0 = 1; held 4 0 = -1; role 4 = 2");
        check.run("8 what was learned stays", "6 1 5",
                "bridge 0; bridge 1; wire 0 4 1; host 1 0; host 5 0; tick 30; send 0 -1 = 2",
                "learned 1 0 0 = 0; cut 0 1 = 1; learned 1 0 0 = 0; entries 0 = 1; send 1 0 = 0",
                "crossings = 0; cut 0 0 = 1; learned 1 0 0 = 0");
        check.run("8 the other cut is its own", "6 1 5",
                "bridge 0; wire 0 1 1; wire 2 3 1; cut 1 1 = 1; role 0 = 2; role 2 = 0; cut 0 1 = 1",
                "role 0 = 0; cut 1 0 = 1; role 2 = 2; role 3 = 2; role 0 = 0");
    }
}
