/** Promises 14 to 19: what is learned, how frames go, the exchanges of ask, and crossings. */
public final class FrameTest {
    /** A host of subnet 0 and the router at bridge 0, a host of subnet 1 at bridge 1, all forwarding. */
    private static final String ROUTED =
            "bridge 0; bridge 1; wire 2 4 1; host 1 0; host 5 1; access 5 1; router 0; trunk 0 0 15;"
                    + "trunk 2 0 15; trunk 4 0 15; tick 40";

    /** A ring of six whose ports all forward at time 2, before it is known to be a ring. */
    private static final String RING =
            "bridge 0; bridge 0; bridge 0; bridge 0; bridge 0; bridge 0; wire 0 5 1; wire 4 9 1;"
                    + "wire 8 13 1; wire 12 17 1; wire 16 21 1; wire 20 1 1";

    public static void main(String[] args) {
        Check check = new Check();
        learnedPlaces(check);
        learningByState(check);
        entriesOfBridges(check);
        sendFloodsAndFinds(check);
        sendOnlyThroughOpenPorts(check);
        tagsOnTheWay(check);
        tagsAtHostsAndRouter(check);
        storm(check);
        askDirect(check);
        askByRouter(check);
        askThatFails(check);
        crossingsOfFrames(check);
        check.end();
    }

    private static void learnedPlaces(Check check) {
        check.run("14 places", "6 1 40",
                "bridge 0; bridge 1; wire 3 6 1; host 1 0; host 5 0; tick 30; learned 0 0 0 = -1",
                "send 0 1 = 2",
                "learned 0 0 0 = 1; learned 1 0 0 = 2; learned 0 0 1 = -1; send 1 0 = 1; learned 0 0 1 = 3",
                "learned 1 0 1 = 1; learned 0 1 0 = -1; learned 0 0 5 = -1; learned 0 0 6 = -1");
        check.run("14 the newer place instead of the older", "6 1 40",
                "bridge 0; bridge 1; wire 0 4 1; wire 1 5 1; host 2 0; host 6 0; tick 40; send 1 -1 = 1",
                "learned 0 0 1 = 0; cut 0 1; learned 0 0 1 = 0; tick 2; state 5 = 3; learned 0 0 1 = -1",
                "send 1 -1 = 1; learned 0 0 1 = 1; entries 0 = 1");
    }

    private static void learningByState(Check check) {
        check.run("14 16 listening, learning, forwarding", "6 2 40",
                "bridge 0; host 0 0; host 1 0; send 0 1 = 0; entries 0 = 0; tick 1; state 0 = 1",
                "send 0 1 = 0",
                "entries 0 = 0; tick 1; state 0 = 2; send 0 1 = 0; entries 0 = 1; learned 0 0 0 = 0",
                "crossings = 0",
                "tick 2; state 0 = 3; send 0 1 = 2; crossings = 1",
                "tick 30; host 2 0; tick 3; state 2 = 2; send 2 -1 = 0; crossings = 0; learned 0 0 2 = 2");
        check.run("14 16 nothing is learned at a blocked port", "6 1 40",
                "bridge 0; bridge 1; wire 0 4 1; wire 1 5 1; host 2 0; tick 30; state 5 = 0; state 1 = 3",
                "send 0 -1 = 0; crossings = 2; learned 1 0 0 = 0; entries 1 = 1");
        check.run("14 16 a dropped network is not learned", "6 1 40",
                "bridge 0; host 0 0; trunk 0 2 11; host 1 0; tick 30; send 0 -1 = 0; entries 0 = 0",
                "trunk 0 2 4",
                "send 0 -1 = 0; entries 0 = 1; learned 0 2 0 = 0");
    }

    private static void entriesOfBridges(Check check) {
        check.run("15 entries", "6 1 40",
                "bridge 0; entries 0 = 0",
                "host 0 0; host 1 0; tick 30; send 0 -1; send 0 -1; entries 0 = 1; send 1 0; entries 0 = 2",
                "access 0 1; send 0 -1; entries 0 = 3; access 0 2; send 0 -1; entries 0 = 4; access 0 3",
                "send 0 -1",
                "entries 0 = 5; access 0 0; send 0 -1; entries 0 = 5; bridge 0; entries 1 = 0");
        check.run("15 the router's in each network", "6 1 40", ROUTED,
                "ask 0 1 0 = 8; learned 0 0 6 = 0; learned 0 1 6 = 0; learned 1 1 6 = 0; learned 1 0 6 = -1",
                "entries 0 = 4; entries 1 = 3; learned 1 0 0 = 0; learned 1 1 1 = 1; learned 0 1 1 = 2");
    }

    private static void sendFloodsAndFinds(Check check) {
        check.run("16 floods, then finds", "6 1 40",
                "bridge 0; bridge 1; wire 0 4 1; host 1 0; host 2 0; host 5 0; router 6; tick 30",
                "send 0 2 = 70; crossings = 4; send 2 0 = 1; crossings = 2; send 0 2 = 4; crossings = 2",
                "send 0 -1 = 70; crossings = 4; send 0 1 = 70; send 1 0 = 1; crossings = 1; send 0 1 = 2",
                "crossings = 1; send 0 0 = 0; crossings = 0; send 2 2 = 0; crossings = 0; send 0 6 = 70");
        check.run("16 the same network alone", "6 1 40",
                "bridge 0; host 0 0; host 1 0; host 2 0; access 2 1; tick 30; send 0 2 = 2; send 2 0 = 0",
                "crossings = 0; learned 0 1 2 = 2; send 0 2 = 2; crossings = 1");
    }

    private static void sendOnlyThroughOpenPorts(Check check) {
        check.run("16 not through a port that only learns", "6 2 40",
                "bridge 0; host 0 0; host 1 0; tick 30; host 2 0; tick 2; state 2 = 2; send 0 -1 = 2",
                "crossings = 1; tick 1; send 0 -1 = 2; tick 1; state 2 = 3; send 0 -1 = 6; crossings = 2");
        check.run("16 learned at a port that is closed", "6 2 40",
                "bridge 0; bridge 1; wire 0 4 1; host 1 0; host 2 0; host 5 0; tick 40; send 2 -1 = 3",
                "send 0 2 = 4",
                "cut 0 1; send 0 2 = 0; crossings = 0; send 1 -1 = 1; crossings = 1");
        check.run("16 learned at a port that lost the network", "6 2 40",
                "bridge 0; host 0 0; host 1 0; host 2 0; tick 40; send 1 -1 = 5; access 1 3; send 0 1 = 0",
                "crossings = 0; learned 0 0 1 = 1");
    }

    private static void tagsOnTheWay(Check check) {
        String pair = "bridge 0; bridge 1; wire 0 4 1; host 1 0; host 5 0; tick 30";
        check.run("16 tagged on a trunk", "6 1 40", pair,
                "access 1 2; access 5 2; trunk 0 0 15; trunk 4 0 15; send 0 1 = 2; learned 1 2 0 = 0",
                "access 5 1; send 0 1 = 0; crossings = 1; access 5 0; send 0 1 = 0");
        check.run("16 a tag is dropped at an access port", "6 1 40", pair,
                "access 1 2; access 5 2; trunk 0 0 15; access 4 2; send 0 1 = 0; crossings = 1",
                "entries 1 = 0",
                "trunk 0 2 15; send 0 1 = 2; learned 1 2 0 = 0; learned 1 0 0 = -1; trunk 0 0 15",
                "trunk 4 2 4",
                "send 0 1 = 2; access 4 2; send 0 1 = 0; crossings = 1");
        check.run("16 no tag takes the native network", "6 1 40", pair,
                "access 1 2; access 5 3; trunk 0 2 4; trunk 4 3 8; send 0 1 = 2; learned 1 3 0 = 0",
                "send 1 0 = 1",
                "learned 0 2 1 = 0; trunk 4 3 7; send 0 1 = 0; crossings = 1; learned 1 2 0 = -1",
                "entries 1 = 2");
        check.run("16 a tag that isn't a member", "6 1 40", pair,
                "access 1 2; access 5 2; trunk 0 0 15; trunk 4 2 11; send 0 1 = 0; crossings = 1",
                "entries 1 = 0");
        check.run("16 one way alone", "6 1 40", pair,
                "access 1 1; access 5 1; trunk 0 0 2; trunk 4 1 2; send 0 1 = 2; send 1 0 = 0; crossings = 1",
                "learned 0 1 1 = -1; learned 0 0 1 = -1; ask 0 1 5 = 1; answer = 0; crossings = 3");
    }

    private static void tagsAtHostsAndRouter(Check check) {
        check.run("16 a host isn't reached by a tag, the router is", "6 1 40",
                "bridge 0; host 0 0; host 1 0; router 2; tick 30; trunk 1 1 15; trunk 2 1 15",
                "send 0 -1 = 64; crossings = 2; trunk 1 0 1; send 0 -1 = 66; access 2 3; send 0 -1 = 2",
                "trunk 2 0 14; send 0 -1 = 2; crossings = 1");
        check.run("16 a host sends in the native network", "6 1 40",
                "bridge 0; host 0 0; host 1 0; tick 30; trunk 0 3 15; send 0 1 = 0; crossings = 0",
                "learned 0 3 0 = 0; access 1 3; send 0 1 = 2");
    }

    /** Each frame goes round the ring both ways, past each host, till it has gone out sixty times. */
    private static void storm(Check check) {
        check.run("16 19 sixty", "12 1 40", RING,
                "host 2 0; host 6 0; host 10 0; tick 2; state 0 = 3; state 1 = 3; send 0 -1 = 7",
                "crossings = 60",
                "tick 30; send 0 -1 = 6; crossings = 8");
        check.run("17 19 sixty of one frame, not of one ask", "12 1 40", RING,
                "host 2 0; host 14 0; tick 2; ask 0 1 9 = 1; crossings = 61; answer = 0");
        // The last two go out to bridges 2 and 4, which learn from them though nothing goes on.
        check.run("16 what came up is still handled", "12 1 40",
                RING, "host 2 0; tick 2; send 0 -1 = 1; crossings = 60; learned 0 0 0 = 0; learned 1 0 0 = 1",
                "learned 2 0 0 = 1; learned 3 0 0 = 0; learned 4 0 0 = 0; learned 5 0 0 = 0; entries 4 = 1");
    }

    private static void askDirect(Check check) {
        check.run("17 one subnet", "6 1 40",
                "bridge 0; host 0 2; host 1 2; host 2 2; tick 30; ask 0 1 7 = 4; answer = 218; crossings = 5",
                "ask 0 1 8 = 4; crossings = 5; answer = 249; ask 2 0 -1 = 4; answer = -31");
        check.run("17 out of reach", "6 1 40",
                "bridge 0; host 0 0; host 1 0; access 1 1; tick 30; ask 0 1 7 = 0; answer = 0; crossings = 0",
                "access 1 0; ask 0 1 7 = 4; answer = 218; access 1 1; ask 0 1 9 = 0; answer = 218");
        check.run("17 one subnet without the router, though it is there", "6 1 40",
                "bridge 0; router 3; host 0 1; host 1 1; tick 30; access 3 2; ask 0 1 1 = 4; crossings = 4");
    }

    private static void askByRouter(Check check) {
        check.run("17 two subnets", "6 1 40", ROUTED,
                "ask 0 1 7 = 8; answer = 218; crossings = 13; ask 1 0 7 = 8; answer = 217; crossings = 13");
        check.run("17 on one bridge", "6 1 40",
                "bridge 0; host 0 3; host 1 2; access 0 3; access 1 2; router 2; trunk 2 0 15; tick 30",
                "ask 0 1 100 = 8; answer = 3101; crossings = 8; learned 0 3 6 = 2; learned 0 2 6 = 2",
                "trunk 2 3 12; ask 0 1 101 = 8; trunk 2 2 12; ask 0 1 102 = 8; answer = 3163; trunk 2 0 12",
                "ask 0 1 103 = 8; trunk 2 0 8; ask 0 1 104 = 3; trunk 2 0 4; ask 0 1 104 = 0; answer = 3194");
        check.run("17 the first frame of each half goes to all", "6 1 40",
                "bridge 0; host 0 0; host 1 1; host 2 1; access 1 1; access 2 1; router 3; trunk 3 0 15",
                "tick 30",
                "ask 0 1 1 = 8; crossings = 9; ask 0 1 1 = 8; crossings = 9; ask 1 0 1 = 8; crossings = 9");
        check.run("17 all in the untagged network", "6 1 40",
                "bridge 0; host 0 0; host 1 1; router 2; tick 30; ask 0 1 1 = 3; crossings = 4; answer = 0");
    }

    private static void askThatFails(Check check) {
        check.run("17 the router's first frame is in the subnet of from", "6 1 40",
                "bridge 0; host 0 1; host 1 2; router 2; trunk 2 0 15; access 1 2; tick 30; ask 0 1 1 = 1",
                "crossings = 1; learned 0 1 6 = 2; learned 0 0 6 = -1; answer = 0");
        check.run("17 the router can't tag at an access port", "6 1 40", ROUTED,
                "access 0 0; ask 0 1 1 = 3; crossings = 4; answer = 0; access 0 1; ask 0 1 1 = 0");
        check.run("17 to sits in another network than its subnet", "6 1 40", ROUTED,
                "access 5 3; ask 0 1 1 = 3; answer = 0; access 5 1; ask 0 1 1 = 8; answer = 32");
        // Four of eight: host to was found, but its frame is lost on the way back.
        check.run("17 four of eight is no answer", "6 1 40", ROUTED,
                "trunk 2 0 2; trunk 4 1 2; ask 0 1 1 = 4; answer = 0; crossings = 6");
        check.run("17 while listening", "6 1 40",
                "bridge 0; host 0 0; host 1 0; ask 0 1 1 = 0; tick 1; ask 0 1 1 = 0; entries 0 = 1; tick 1",
                "ask 0 1 1 = 4");
    }

    private static void crossingsOfFrames(Check check) {
        check.run("19 of the latest", "6 1 40",
                "crossings = 0; bridge 0; host 0 0; host 1 0; host 2 0; tick 30; crossings = 0",
                "send 0 -1 = 6",
                "crossings = 2; crossings = 2; send 1 0 = 1",
                "crossings = 1; ask 0 1 0 = 4; crossings = 5; tick 1; cut 0 1 = 0; crossings = 5",
                "send 0 0 = 0",
                "crossings = 0");
    }
}
