/** Promises 9 to 13: time, roles, states, roots with distances and marks, and held messages. */
public final class TreeTest {
    /** Bridges 0, 1, 2 in a row, bridge 0 the root, all settled and without a mark at time 40. */
    private static final String ROW =
            "bridge 0; bridge 1; bridge 2; wire 0 4 1; wire 5 8 1; tick 40 = 40;"
                    + "root 0 = 0; root 1 = 2; root 2 = 4";

    public static void main(String[] args) {
        Check check = new Check();
        ticks(check);
        messagesHopOncePerTick(check);
        leastOffer(check);
        designated(check);
        rolesOfPlugs(check);
        wireWithinOneBridge(check);
        agesAndLoss(check);
        staleRootGoesRound(check);
        states(check);
        sinceIsKeptOrNot(check);
        noticeOfRoot(check);
        noticeOfCut(check);
        noticesGoToRoot(check);
        markedForgetSooner(check);
        heldParts(check);
        check.end();
    }

    private static void ticks(Check check) {
        check.run("9 tick", "6 1 5",
                "tick 0 = 0; tick 1 = 1; tick 60 = 61; tick 0 = 61; tick 2 = 63");
    }

    private static void messagesHopOncePerTick(Check check) {
        check.run("9 12 one hop in a tick", "6 1 5",
                "bridge 0; bridge 1; bridge 2; bridge 3; wire 0 4 2; wire 5 8 3; wire 9 12 9",
                "root 0 = 0; root 1 = 18432; root 2 = 36864; root 3 = 55296; tick 1",
                "root 1 = 4; root 2 = 18438; root 3 = 36882; tick 1",
                "root 2 = 10; root 3 = 18456; tick 1; root 0 = 1; root 1 = 5; root 2 = 10; root 3 = 28");
        // The same from the bridge with the highest number: no bridge may see what another just did.
        check.run("9 12 one hop, downwards", "6 4 5",
                "bridge 3; bridge 2; bridge 1; bridge 0; wire 0 4 2; wire 5 8 3; wire 9 12 9; tick 1",
                "root 3 = 6144; root 2 = 6162; root 1 = 20486; root 0 = 34820; tick 1",
                "root 1 = 6168; root 0 = 20490; tick 1; root 0 = 6172; role 0 = 1; role 4 = 2");
    }

    private static void leastOffer(Check check) {
        check.run("10 a lower root beats a lower cost", "6 1 5",
                "bridge 7; bridge 1; bridge 0; wire 0 4 1; wire 1 8 9; tick 1; role 0 = 2; role 1 = 1",
                "root 0 = 4114");
        check.run("10 the lower cost beats the lower sender", "6 1 5",
                "bridge 0; bridge 1; bridge 2; bridge 3; wire 0 4 5; wire 1 8 1",
                "wire 5 12 3; wire 9 13 4; tick 3; role 12 = 3; role 13 = 1; root 3 = 10");
        check.run("10 the lower sender beats the lower ports", "6 1 5",
                "bridge 0; bridge 2; bridge 1; bridge 3; wire 0 4 1; wire 1 8 1",
                "wire 5 12 1; wire 11 13 1; tick 3; role 12 = 3; role 13 = 1; root 3 = 4");
        check.run("10 the lower port of the sender", "6 1 5",
                "bridge 0; bridge 1; wire 2 4 1; wire 1 5 1; tick 2; role 4 = 3; role 5 = 1; root 1 = 2");
        check.run("10 the wire's cost counts, not the message's alone", "6 1 5",
                "bridge 0; bridge 1; wire 0 4 9; wire 1 5 8; tick 2; role 4 = 3; role 5 = 1; root 1 = 16");
        check.run("10 no offer of a root that isn't below", "6 1 5",
                "bridge 0; bridge 1; wire 0 4 1; tick 1; held 0 0 = 9; role 0 = 2; root 0 = 0; role 4 = 1");
    }

    private static void designated(Check check) {
        check.run("10 by distance", "6 1 5",
                "bridge 0; bridge 1; bridge 2; wire 0 4 5; wire 1 8 1; wire 5 9 9; tick 3",
                "root 1 = 11; root 2 = 3; role 5 = 3; role 9 = 2");
        check.run("10 by ID", "6 1 5",
                "bridge 0; bridge 2; bridge 1; wire 0 4 5; wire 1 8 5; wire 5 9 9; tick 3",
                "root 1 = 11; root 2 = 11; role 5 = 3; role 9 = 2");
        check.run("10 by number where the priority is one", "6 1 5",
                "bridge 4; bridge 4; bridge 4; wire 0 4 5; wire 1 8 5; wire 5 9 9; tick 3",
                "root 1 = 65547; role 5 = 2; role 9 = 3");
    }

    private static void rolesOfPlugs(Check check) {
        check.run("10 hosts, router, wires", "6 1 5",
                "bridge 0; role 0 = 0; host 0 0; role 0 = 2; router 1; role 1 = 2; wire 2 3 1",
                "role 2 = 2; role 3 = 2; cut 0 1; role 2 = 0; role 3 = 0; tick 9; role 0 = 2; role 2 = 0",
                "cut 0 0; role 2 = 2; role 3 = 2; tick 1; role 2 = 2; role 3 = 3");
    }

    private static void wireWithinOneBridge(Check check) {
        check.run("10 a wire within the root", "6 1 5",
                "bridge 0; wire 3 1 1; tick 1; held 1 2 = 0; held 1 3 = 3; held 3 3 = 1; role 1 = 2",
                "role 3 = 3; root 0 = 0; tick 30; role 1 = 2; role 3 = 3; state 1 = 3; state 3 = 0");
        check.run("10 a wire within another", "6 1 5",
                "bridge 0; bridge 1; wire 0 4 1; wire 5 6 1; tick 30; root 1 = 2; role 4 = 1; role 5 = 2",
                "role 6 = 3; held 6 0 = 0; held 6 1 = 1; held 6 2 = 9; held 6 3 = 1");
        check.run("10 its own stale message makes a bridge its own neighbour", "6 1 5",
                "bridge 0; bridge 1; wire 0 4 1; wire 5 6 2; tick 30; cut 0 1; root 1 = 6; role 6 = 1",
                "role 5 = 2; tick 1; root 1 = 10; tick 1; root 1 = 14; tick 1; root 1 = 18; tick 1",
                "held 6 4 = 5",
                "root 1 = 22; tick 1 = 35; root 1 = 18433; role 5 = 2; role 6 = 3; held 5 0 = 9",
                "held 5 3 = 2; held 5 4 = 0",
                "tick 6 = 41; root 1 = 18433; tick 60; root 1 = 18432");
    }

    private static void agesAndLoss(Check check) {
        check.run("9 13 ages", "6 1 5", ROW,
                "held 4 4 = 0; held 8 4 = 1; held 0 4 = -1; held 5 4 = -1; tick 1; held 4 4 = 0",
                "held 8 4 = 1");
        check.run("9 13 a message that is not renewed", "8 1 5",
                "bridge 0; bridge 1; wire 0 4 1; tick 1; held 0 4 = 0; tick 6; held 0 4 = 6; tick 1",
                "held 0 4 = 7; held 0 0 = 9; tick 1; held 0 4 = -1; held 0 0 = -1; held 4 4 = 0");
    }

    /** The root is cut off from a ring of three, which hands its last message on till it is too old. */
    private static void staleRootGoesRound(Check check) {
        check.run("9 12 a lost root", "6 1 5",
                "bridge 0; bridge 1; bridge 2; bridge 3; wire 0 4 1",
                "wire 5 8 1; wire 9 12 1; wire 13 6 1; tick 40; root 1 = 2; root 2 = 4; root 3 = 4",
                "held 8 4 = 1; cut 0 1; root 1 = 18432; root 2 = 4; tick 1; root 2 = 18435; root 3 = 6",
                "held 12 4 = 2; tick 1; root 1 = 8; held 6 0 = 0; held 6 4 = 3; root 3 = 18435; tick 1",
                "root 2 = 10; held 8 4 = 4; root 1 = 8; tick 1; root 3 = 12; held 12 4 = 5; tick 1",
                "held 12 0 = 18; root 1 = 18433; root 2 = 18435; root 3 = 18435; tick 1; held 12 0 = 9",
                "tick 60; root 1 = 18432; root 2 = 18434; root 3 = 18434");
    }

    private static void states(Check check) {
        check.run("11 delay 2", "6 2 5",
                "bridge 0; tick 7; state 0 = 0; host 0 0; router 1; wire 2 3 1; state 0 = 1; state 1 = 1",
                "state 2 = 1; state 3 = 1; tick 1; state 0 = 1; state 2 = 1; state 3 = 0; tick 1",
                "state 0 = 2; state 1 = 2; state 2 = 2; tick 1; state 0 = 2; tick 1; state 0 = 3",
                "state 1 = 3; state 2 = 3; state 3 = 0; tick 60; state 0 = 3; state 3 = 0");
    }

    private static void sinceIsKeptOrNot(Check check) {
        // Either way the port's time goes on, for its role was 1 or 2 all along.
        check.run("11 from designated to root port", "6 2 5",
                "bridge 1; bridge 0; wire 0 4 1; role 0 = 2; tick 3; role 0 = 1; state 0 = 2; tick 1",
                "state 0 = 3");
        check.run("11 from root port to designated", "6 2 5",
                "bridge 1; bridge 0; bridge 2; wire 0 4 1; wire 1 8 1; tick 30; role 8 = 1; state 8 = 3",
                "bridge 0",
                "wire 9 12 1; tick 1; role 8 = 1; tick 1; state 8 = 3; cut 0 1; tick 2; role 8 = 2",
                "role 9 = 1",
                "state 8 = 3; root 0 = 6148; state 9 = 3");
        check.run("11 a blocked port starts anew", "6 2 5",
                "bridge 0; bridge 1; wire 0 4 1; wire 1 5 1; tick 30; role 5 = 3; state 5 = 0; cut 0 1",
                "role 5 = 1; state 5 = 1; state 4 = 0; tick 1; state 5 = 1; tick 1; state 5 = 2; tick 2",
                "state 5 = 3; cut 0 0; state 4 = 1; state 5 = 3; tick 1; role 4 = 1; role 5 = 3; state 5 = 0",
                "tick 1; state 4 = 2; tick 2; state 4 = 3");
        // Cut and made whole with no tick in between: the role was 0 after the first call.
        check.run("11 looked at after each call", "6 2 5",
                "bridge 0; bridge 1; wire 0 4 1; tick 30; state 0 = 3; cut 0 1; state 0 = 0; cut 0 0",
                "state 0 = 1; role 0 = 2; tick 1; state 0 = 1; tick 1; state 0 = 2");
    }

    private static void noticeOfRoot(Check check) {
        check.run("12 marked until", "6 1 5",
                "bridge 0; host 0 0; tick 2; state 0 = 3; root 0 = 0; tick 1 = 3; root 0 = 1; tick 6 = 9",
                "root 0 = 1; tick 1 = 10; root 0 = 0; tick 60; root 0 = 0");
        check.run("12 marked until, others", "12 3 5",
                "bridge 0; host 0 0; tick 6; state 0 = 3; root 0 = 0; tick 1 = 7; root 0 = 1; tick 14 = 21",
                "root 0 = 1; tick 1 = 22; root 0 = 0");
        check.run("12 learning alone is no notice", "6 2 5",
                "bridge 0; host 0 0; tick 3; state 0 = 2; root 0 = 0; tick 1; state 0 = 3; root 0 = 0",
                "tick 1",
                "root 0 = 1");
        check.run("12 a new port is no notice till it forwards", "6 1 5",
                "bridge 0; tick 5; host 0 0; wire 1 2 1; router 3; tick 1; root 0 = 0; tick 1; root 0 = 0");
    }

    private static void noticeOfCut(Check check) {
        check.run("12 cut while listening", "6 2 5",
                "bridge 0; bridge 1; wire 0 4 1; tick 1; state 0 = 1; cut 0 1; tick 1; root 0 = 0; tick 1",
                "root 0 = 0");
        check.run("12 cut while learning", "6 2 5",
                "bridge 0; bridge 1; wire 0 4 1; tick 2; state 0 = 2; cut 0 1; root 0 = 0; tick 1 = 3",
                "root 0 = 1",
                "root 1 = 18433; tick 7 = 10; root 0 = 1; tick 1 = 11; root 0 = 0; root 1 = 18432");
        check.run("12 cut while forwarding", "6 1 5", ROW,
                "cut 1 1; root 1 = 2; tick 1 = 41; root 0 = 0; root 1 = 2; root 2 = 36865; tick 1 = 42",
                "root 0 = 1; root 1 = 3; tick 6 = 48; root 0 = 1; root 2 = 36864; tick 1 = 49; root 0 = 0",
                "root 1 = 2");
        check.run("12 made whole is no notice till it forwards", "6 1 5", ROW,
                "cut 0 1; tick 30; root 0 = 0; cut 0 0; tick 1; root 0 = 0; tick 1; root 0 = 0",
                "state 0 = 3; tick 1",
                "root 0 = 1");
        // What two ports held all along becomes better than what is left after the cut.
        check.run("8 10 blocked by a cut elsewhere", "6 1 5",
                "bridge 5; bridge 0; bridge 1; wire 0 4 1; wire 1 8 1; wire 2 9 1; tick 2; root 0 = 2050",
                "role 0 = 1; role 1 = 2; role 2 = 2; state 2 = 3; cut 0 1; root 0 = 20482; role 0 = 0",
                "role 1 = 1; role 2 = 3; state 1 = 3; state 2 = 0");
    }

    private static void noticesGoToRoot(Check check) {
        check.run("9 12 a bridge a tick", "6 1 5", ROW,
                "host 10 0; tick 2 = 42; state 10 = 3; tick 1 = 43; root 0 = 0; tick 1 = 44; root 0 = 0",
                "tick 1 = 45; root 0 = 1; root 1 = 3; root 2 = 4; tick 1 = 46; root 2 = 5; tick 5 = 51",
                "root 0 = 1; root 1 = 3; root 2 = 5; tick 1 = 52; root 0 = 0; root 1 = 2; root 2 = 5",
                "tick 1 = 53; root 2 = 4");
        check.run("9 12 one that loses its own gets another", "6 1 5", ROW,
                "host 6 0; host 10 0; tick 3 = 43; root 0 = 0; tick 1 = 44; root 0 = 1; tick 6 = 50",
                "root 0 = 1",
                "tick 1 = 51; root 0 = 1; tick 1 = 52; root 0 = 0");
        check.run("9 12 one that loses its own gets another, upwards", "6 1 5",
                "bridge 2; bridge 1; bridge 0; wire 0 4 1; wire 5 8 1; tick 40; root 2 = 4096; host 2 0",
                "host 6 0",
                "tick 3 = 43; root 2 = 4096; tick 1 = 44; root 2 = 4097; tick 7 = 51; root 2 = 4097",
                "tick 1 = 52",
                "root 2 = 4096");
        check.run("9 12 upwards a bridge a tick", "6 1 5",
                "bridge 2; bridge 1; bridge 0; wire 0 4 1; wire 5 8 1; tick 40; host 2 0; tick 4 = 44",
                "root 2 = 4096; tick 1 = 45; root 2 = 4097; root 1 = 4099; root 0 = 4100");
    }

    private static void markedForgetSooner(Check check) {
        check.run("9 memory of a marked bridge", "6 3 40",
                "bridge 0; host 0 0; host 1 0; tick 40; send 0 1 = 2; tick 10; send 1 0 = 1; entries 0 = 2",
                "host 2 0; tick 6 = 56; entries 0 = 2; root 0 = 0; send 1 -1 = 5; tick 1 = 57; root 0 = 1",
                "entries 0 = 1; learned 0 0 1 = 1; tick 1 = 58; entries 0 = 1; tick 1 = 59; entries 0 = 0",
                "send 0 1 = 6; tick 2 = 61; entries 0 = 1; tick 1 = 62; entries 0 = 0");
        check.run("9 memory of one that isn't", "6 1 7",
                "bridge 0; host 0 0; host 1 0; tick 40; send 0 -1 = 2; tick 3; send 1 -1 = 1; tick 3",
                "entries 0 = 2",
                "tick 1; entries 0 = 1; learned 0 0 0 = -1; learned 0 0 1 = 1; tick 2; entries 0 = 1; tick 1",
                "entries 0 = 0");
        check.run("9 a frame makes it new", "6 1 7",
                "bridge 0; host 0 0; tick 40; send 0 -1; tick 6; send 0 -1; tick 6; entries 0 = 1; tick 1",
                "entries 0 = 0");
    }

    private static void heldParts(Check check) {
        check.run("13 parts", "6 1 5",
                "bridge 1; bridge 2; bridge 3; wire 3 6 4; wire 5 8 1; host 0 0; held 6 0 = -1; tick 2",
                "held 6 0 = 8; held 6 1 = 0; held 6 2 = 8; held 6 3 = 3; held 6 4 = 0; held 6 5 = 0",
                "held 8 0 = 8; held 8 1 = 4; held 8 2 = 17; held 8 3 = 1; held 8 4 = 1; held 8 5 = 0; tick 1",
                "held 6 5 = 1; held 8 5 = 0; tick 1; held 8 5 = 1");
    }
}
