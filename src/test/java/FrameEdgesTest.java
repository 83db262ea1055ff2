/** Promises 14 to 19 at their edges: each sentence that names one has a run of its own. */
public final class FrameEdgesTest {
    private static final String SIX = "bridge 0; bridge 0; bridge 0; bridge 0; bridge 0; bridge 0";

    /** Hosts 0 and 1 at one bridge, all forwarding and without a mark. */
    private static final String PAIR = "bridge 0; host 0 0; host 3 0; tick 40";

    /** As PAIR, with the router. */
    private static final String ROUTED = "bridge 0; host 0 0; host 3 0; router 1; tick 40";

    /** Hosts of two subnets and the router, each in the network of its subnet. */
    private static final String TWO_SUBNETS =
            "bridge 0; host 0 0; host 1 3; access 1 3; router 2; trunk 2 0 15; tick 40";

    /** All its ports forward at time 2, before it is known to be a ring. */
    private static final String RING = SIX
            + "; wire 0 5 1; wire 4 9 1; wire 8 13 1; wire 12 17 1; wire 16 21 1; wire 20 1 1";

    /**
     * A ring of trunks. A frame that goes up from bridge to bridge changes its
     * network on its way, one step a round: 0 to 1 at bridge 0, 1 to 2 at bridge 5, 2 to 3 at
     * bridge 4.
     */
    private static final String CHANGING_RING = RING
            + "; trunk 0 0 15; trunk 4 0 15; trunk 5 0 15; trunk 8 0 15; trunk 9 0 15; trunk 13 0 15"
            + "; trunk 20 0 15; trunk 1 1 15; trunk 16 1 15; trunk 21 2 15; trunk 12 2 15; trunk 17 3 15";

    public static void main(String[] args) {
        Check check = new Check();
        learnedRefusals(check);
        learnedNumbers(check);
        learnedOrNot(check);
        entriesOfBridges(check);
        fullTable(check);
        sendRefusals(check);
        sendNumbers(check);
        sendByState(check);
        sixtyCrossings(check);
        askRefusals(check);
        askCounts(check);
        answers(check);
        crossingsOfFrames(check);
        check.end();
    }

    private static void learnedRefusals(Check check) {
        String knows = PAIR + "; send 0 1 = 2; learned 0 0 0 = 0";
        check.run("14 no such bridge", "6 1 40", knows,
                "learned -1 0 0 = -1; learned 1 0 0 = -1; learned 6 0 0 = -1; learned MIN 0 0 = -1",
                "learned MAX 0 0 = -1");
        check.run("14 no such network", "6 1 40", knows,
                "learned 0 -1 0 = -1; learned 0 4 0 = -1; learned 0 MIN 0 = -1; learned 0 MAX 0 = -1");
        check.run("14 no such address", "6 1 40", knows,
                "learned 0 0 -1 = -1; learned 0 0 7 = -1; learned 0 0 MIN = -1; learned 0 0 MAX = -1");
        // Each would be the place of a pair that is known, if pairs were only counted through.
        check.run("14 no such address, though another network has one there", "6 1 40", knows,
                "access 0 1; send 0 1 = 0; learned 0 1 0 = 0; learned 0 0 7 = -1; learned 0 2 -7 = -1",
                "learned 0 -1 14 = -1");
        check.run("14 no such bridge, though another has one there", "6 1 40",
                "bridge 0; bridge 1; host 4 0; tick 40; send 0 -1 = 0; learned 1 0 0 = 0",
                "learned 0 4 0 = -1; learned 2 -4 0 = -1");
    }

    private static void learnedNumbers(Check check) {
        check.run("14 the first and the last port", "6 1 40", PAIR,
                "send 0 1 = 2; send 1 0 = 1; learned 0 0 0 = 0; learned 0 0 1 = 3");
        check.run("14 the last network", "6 1 40", PAIR, "access 3 3; send 1 -1 = 0; learned 0 3 1 = 3");
        check.run("14 the last bridge", "6 1 40", SIX,
                "host 23 0; tick 40; send 0 -1 = 0; learned 5 0 0 = 3; learned 4 0 0 = -1");
        check.run("14 the last host", "6 1 40",
                "bridge 0; bridge 0; host 0 0; host 1 0; host 2 0; host 3 0; host 4 0; host 5 0 = 5; tick 40",
                "send 5 -1 = 16; learned 1 0 5 = 1; learned 0 0 5 = -1");
        check.run("14 the router", "6 1 40", TWO_SUBNETS,
                "ask 0 1 1 = 8; learned 0 0 6 = 2; learned 0 3 6 = 2; learned 0 1 6 = -1");
        check.run("14 a host that isn't there", "6 1 40", PAIR,
                "send 0 -1 = 2; learned 0 0 2 = -1; learned 0 0 5 = -1; learned 0 0 6 = -1");
    }

    private static void learnedOrNot(Check check) {
        String plugged = "bridge 0; host 0 0; host 1 0";
        check.run("14 nothing yet", "6 2 40", PAIR, "learned 0 0 0 = -1; learned 0 0 1 = -1");
        check.run("14 in state 1", "6 2 40", plugged,
                "tick 1; state 0 = 1; send 0 1 = 0; learned 0 0 0 = -1");
        check.run("14 in state 2", "6 2 40", plugged, "tick 2; state 0 = 2; send 0 1 = 0; learned 0 0 0 = 0");
        check.run("14 in state 3", "6 2 40", plugged, "tick 4; state 0 = 3; send 0 1 = 2; learned 0 0 0 = 0");
        check.run("14 in state 0", "6 2 40",
                "bridge 0; bridge 1; wire 0 4 1; wire 1 5 1; host 2 0; tick 40; state 5 = 0; send 0 -1 = 0",
                "learned 1 0 0 = 0");
        check.run("14 the destination isn't learned", "6 2 40", PAIR, "send 0 1 = 2; learned 0 0 1 = -1");
        check.run("14 a pair has one place, the newer", "6 1 40",
                "bridge 0; bridge 1; wire 0 4 1; wire 1 5 1; host 6 0; tick 40; send 0 -1",
                "learned 0 0 0 = 0; cut 0 1; tick 2",
                "send 0 -1; learned 0 0 0 = 1; entries 0 = 1");
        check.run("14 no member of the port", "6 1 40", PAIR,
                "trunk 0 0 14; send 0 1 = 0; learned 0 0 0 = -1; entries 0 = 0");
    }

    private static void entriesOfBridges(Check check) {
        check.run("15 no such bridge", "6 1 40", PAIR,
                "entries -1 = -1; entries 1 = -1; entries 6 = -1; entries MIN = -1; entries MAX = -1");
        check.run("15 none", "6 1 40", PAIR, "entries 0 = 0");
        check.run("15 the last bridge", "6 1 40", SIX,
                "host 23 0; tick 40; send 0 -1; entries 5 = 1; entries 4 = 0; entries 6 = -1");
        check.run("15 one pair twice", "6 1 40", PAIR, "send 0 1; send 0 1; entries 0 = 1");
        check.run("15 one address in two networks", "6 1 40", PAIR,
                "send 0 1; access 0 1; send 0 1; entries 0 = 2");
        check.run("15 none any more", "6 1 40", PAIR,
                "send 0 1; tick 39; entries 0 = 1; tick 1; entries 0 = 0");
    }

    /** Six hosts and the router are learned in all four networks by all three bridges. */
    private static void fullTable(Check check) {
        StringBuilder sends = new StringBuilder("tick 0 = 40");
        int[] places = {1, 2, 3, 6, 7, 10};
        for (int network = 0; network < 4; network++) {
            for (int place : places) {
                sends.append("; access ").append(place).append(' ').append(network).append(" = 1");
            }
            for (int host = 0; host < places.length; host++) {
                sends.append("; send ").append(host).append(" -1");
            }
        }
        check.run("15 all pairs", "6 1 40",
                "bridge 0; bridge 1; bridge 2; wire 0 4 1; wire 5 8 1; router 11; trunk 11 0 15",
                "trunk 0 0 15; trunk 4 0 15; trunk 5 0 15; trunk 8 0 15",
                "host 1 0; host 2 1; host 3 2; host 6 3; host 7 0; host 10 0; access 2 1; access 3 2",
                "access 6 3; tick 40",
                "ask 0 1 1 = 8; ask 0 2 1 = 8; ask 0 3 1 = 8", sends.toString(),
                "entries 0 = 28; entries 1 = 28; entries 2 = 28; learned 0 0 0 = 1; learned 0 3 6 = 0",
                "learned 2 3 5 = 2",
                "tick 39; entries 0 = 28; tick 1; entries 0 = 0; entries 1 = 0; entries 2 = 0");
    }

    private static void sendRefusals(Check check) {
        String sent = PAIR + "; send 0 1 = 2; crossings = 1; entries 0 = 1";
        String asBefore = "crossings = 1; entries 0 = 1; learned 0 0 1 = -1";
        check.refusals("16 no such host from", sent, asBefore,
                "send -1 0 = -1", "send 2 0 = -1", "send 5 0 = -1", "send 6 0 = -1", "send MIN 0 = -1",
                "send MAX 0 = -1");
        check.refusals("16 to is none of these", sent, asBefore,
                "send 1 -2 = -1", "send 1 2 = -1", "send 1 5 = -1", "send 1 7 = -1", "send 1 MIN = -1",
                "send 1 MAX = -1");
        check.refusals("16 the router isn't plugged", sent, asBefore, "send 0 6 = -1", "send 1 6 = -1");
        check.refusals("16 the router sends no frame of its own", ROUTED + "; send 0 1 = 66",
                "crossings = 2; entries 0 = 1",
                "send 6 0 = -1", "send 6 -1 = -1", "send 6 6 = -1");
        check.run("16 no host at all", "6 1 40",
                "bridge 0; router 0; tick 40; send 0 -1 = -1; send 0 0 = -1; send 0 6 = -1");
    }

    private static void sendNumbers(Check check) {
        check.run("16 to itself", "6 1 40", PAIR, "send 0 0 = 0; crossings = 0; learned 0 0 0 = 0");
        check.run("16 alone", "6 1 40",
                "bridge 0; host 0 0; tick 40; send 0 -1 = 0; crossings = 0; send 0 0 = 0");
        check.run("16 to the router once it is plugged", "6 1 40", PAIR,
                "send 0 6 = -1; router 1; send 0 6 = 2; tick 2; send 0 6 = 66");
        check.run("16 all six hosts but the sender, and the router", "6 1 40",
                "bridge 0; bridge 1; bridge 2; wire 0 4 1; wire 5 8 1; router 10; host 1 0; host 2 0",
                "host 3 0",
                "host 6 0; host 7 0; host 9 0; tick 40; send 0 -1 = 126; send 5 -1 = 95; send 2 -1 = 123",
                "crossings = 8");
        check.run("16 all hosts of a ring, and the sender too", "6 1 40", RING, "router 22",
                "host 2 0; host 6 0; host 10 0; host 14 0; host 18 0; host 23 0; tick 2; send 0 -1 = 127",
                "send 5 -1 = 127");
    }

    private static void sendByState(Check check) {
        // The host that comes later is at place 1: in state 1 up to 41, in state 2 up to 43.
        String later = "bridge 0; host 0 0; tick 40; host 1 0";
        check.run("16 out through state 1", "6 2 40", later,
                "tick 1; state 1 = 1; send 0 -1 = 0; crossings = 0");
        check.run("16 out through state 2", "6 2 40", later,
                "tick 3; state 1 = 2; send 0 -1 = 0; crossings = 0");
        check.run("16 out through state 3", "6 2 40", later,
                "tick 4; state 1 = 3; send 0 -1 = 2; crossings = 1");
        check.run("16 in by state 1", "6 2 40", later, "tick 1; send 1 0 = 0; crossings = 0; entries 0 = 0");
        check.run("16 in by state 2", "6 2 40", later, "tick 3; send 1 0 = 0; crossings = 0; entries 0 = 1");
        check.run("16 in by state 3", "6 2 40", later, "tick 4; send 1 0 = 1; crossings = 1; entries 0 = 1");
        check.run("16 in by state 0", "6 2 40",
                "bridge 0; bridge 1; wire 0 4 1; wire 1 5 1; host 2 0; host 6 0; tick 40; send 0 -1 = 2",
                "crossings = 3");
    }

    /** Hosts 1 and 2 are in network 3, which the frame comes to in its third round. */
    private static void sixtyCrossings(Check check) {
        check.run("16 the sixtieth goes out, the next doesn't", "12 1 40", CHANGING_RING,
                "host 2 0; host 14 3; access 14 3; host 15 3; access 15 3; host 11 0; host 6 0; host 18 0",
                "tick 2",
                "send 0 -1 = 59; crossings = 60");
        check.run("16 the count is of one frame", "12 1 40", CHANGING_RING,
                "host 2 0; host 14 3; access 14 3; host 15 3; access 15 3; host 11 0; host 6 0; host 18 0",
                "tick 2",
                "send 0 -1 = 59; send 0 -1 = 59; crossings = 60; send 0 -1 = 59; crossings = 60");
        check.run("16 fewer than sixty", "12 1 40", CHANGING_RING,
                "host 2 0; host 6 0; tick 40; send 0 -1 = 2; crossings = 7");
    }

    private static void askRefusals(Check check) {
        String asked = PAIR + "; ask 0 1 3 = 4; crossings = 4; answer = 94";
        String asBefore = "crossings = 4; answer = 94; entries 0 = 2";
        check.refusals("17 no such from", asked, asBefore,
                "ask -1 0 9 = -1", "ask 2 0 9 = -1", "ask 5 0 9 = -1", "ask 6 0 9 = -1", "ask MIN 0 9 = -1",
                "ask MAX 0 9 = -1");
        check.refusals("17 no such to", asked, asBefore,
                "ask 0 -1 9 = -1", "ask 0 2 9 = -1", "ask 0 5 9 = -1", "ask 0 6 9 = -1", "ask 0 MIN 9 = -1",
                "ask 0 MAX 9 = -1");
        check.refusals("17 other subnets, no router", asked + "; host 1 1 = 2; tick 2", asBefore,
                "ask 0 2 9 = -1", "ask 2 0 9 = -1");
        check.refusals("17 the router is no host", ROUTED + "; ask 0 1 3 = 4",
                "answer = 94; crossings = 5; entries 0 = 2",
                "ask 6 0 9 = -1", "ask 0 6 9 = -1", "ask 6 6 9 = -1", "ask 0 -1 9 = -1");
        check.run("17 other subnets, once the router is plugged", "6 1 40", asked,
                "host 1 1 = 2; ask 0 2 9 = -1; router 2 = 1; ask 0 2 9 = 0; answer = 94; crossings = 1");
    }

    private static void askCounts(Check check) {
        check.run("17 none of four", "6 1 40", PAIR, "access 3 1; ask 0 1 5 = 0; crossings = 0; answer = 0");
        check.run("17 none of four, itself", "6 1 40", PAIR,
                "ask 0 0 5 = 0; crossings = 1; answer = 0; ask 1 1 5 = 0");
        check.run("17 one of four", "6 1 40",
                "bridge 0; bridge 1; wire 1 4 1; host 0 0; host 5 0; trunk 1 1 15; trunk 4 0 15; tick 40",
                "ask 0 1 5 = 1; answer = 0");
        // Bridge 1 knows host 1 in network 0 from when the ring was whole, and the wrong way round.
        check.run("17 two of four", "6 1 40",
                RING + "; host 2 0; host 10 0; tick 2; trunk 4 0 0; send 1 -1 = 1",
                "learned 1 0 1 = 1; cut 5 1; access 2 1; trunk 0 1 15; trunk 5 0 15; trunk 4 1 15",
                "trunk 9 0 15",
                "ask 0 1 5 = 2; crossings = 10; answer = 0; learned 1 0 1 = 1; learned 1 1 1 = 0");
        check.run("17 all four", "6 1 40", PAIR, "ask 0 1 5 = 4; crossings = 4; answer = 156");
        check.run("17 none of eight", "6 1 40", TWO_SUBNETS, "access 2 3; ask 0 1 5 = 0; answer = 0");
        check.run("17 one of eight", "6 1 40", TWO_SUBNETS, "access 0 1; ask 0 1 5 = 1; answer = 0");
        check.run("17 two of eight", "6 1 40",
                "bridge 5; bridge 5; bridge 7; bridge 4; bridge 3; wire 0 5 1; wire 8 13 1; wire 12 17 1",
                "wire 16 1 1",
                "wire 6 11 5; host 7 1; host 10 0; router 3; access 1 1; trunk 3 0 15; trunk 8 0 15",
                "trunk 13 2 15; tick 2",
                "ask 0 1 5 = 2; answer = 0");
        check.run("17 three of eight", "6 1 40", TWO_SUBNETS, "access 1 2; ask 0 1 5 = 3; answer = 0");
        check.run("17 all eight", "6 1 40", TWO_SUBNETS,
                "ask 0 1 5 = 8; crossings = 8; answer = 156; ask 1 0 5 = 8; answer = 155");
        // All eight in a ring whose wires change networks: what each frame crosses hangs on those before.
        check.run("17 all eight, in their order", "6 1 40",
                "bridge 3; bridge 5; bridge 1; bridge 3; bridge 0; wire 0 5 1; wire 4 9 1; wire 8 13 1",
                "wire 12 17 1",
                "wire 16 1 1; host 19 0; host 14 1; router 7; access 5 1; trunk 7 2 15; tick 2",
                "ask 0 1 5 = 8; crossings = 40",
                "learned 1 0 1 = -1; learned 2 0 1 = -1");
        check.run("17 subnets that are one need no router", "6 1 40", ROUTED,
                "access 1 2; ask 0 1 5 = 4; crossings = 4");
    }

    private static void answers(Check check) {
        check.run("18 0 at first", "6 1 40", "answer = 0");
        check.run("18 0 till a host was asked", "6 1 40", PAIR, "send 0 1 = 2; answer = 0");
        String three = "bridge 0; host 0 0; host 1 0; host 2 0; tick 40";
        check.run("18 the greatest that doesn't wrap", "6 1 40", three, "ask 0 1 69273666 = 4; answer = MAX");
        check.run("18 the least that wraps", "6 1 40", three, "ask 0 2 69273666 = 4; answer = MIN");
        check.run("18 the least that doesn't wrap below", "6 1 40", three,
                "ask 1 0 -69273666 = 4; answer = -2147483646");
        check.run("18 the greatest that wraps below", "6 1 40", three,
                "ask 1 0 -69273667 = 4; answer = 2147483619");
        check.run("18 the greatest value", "6 1 40", three, "ask 0 1 MAX = 4; answer = 2147483618");
        check.run("18 the least value", "6 1 40", three,
                "ask 0 1 MIN = 4; answer = -2147483647; ask 1 0 MIN = 4; answer = MIN");
        check.run("18 value 0", "6 1 40", three, "ask 0 2 0 = 4; answer = 2; ask 2 0 0 = 4; answer = 0");
        check.run("18 value -1", "6 1 40", three, "ask 0 1 -1 = 4; answer = -30");
        check.run("18 the latest that was answered", "6 1 40", three,
                "ask 0 1 5 = 4; ask 0 2 5 = 4; answer = 157; access 1 1; ask 0 1 6 = 0; answer = 157",
                "ask 0 9 6 = -1; answer = 157");
        check.run("18 by the router, wrapping", "6 1 40", TWO_SUBNETS,
                "ask 0 1 MAX = 8; answer = 2147483618");
    }

    private static void crossingsOfFrames(Check check) {
        check.run("19 there was none", "6 1 40",
                "crossings = 0; bridge 0; host 0 0; host 1 0; tick 40; crossings = 0");
        check.run("19 all were refused", "6 1 40", PAIR, "send 0 9 = -1; ask 0 9 1 = -1; crossings = 0");
        check.run("19 the latest was refused", "6 1 40", PAIR,
                "send 0 1 = 2; send 0 9 = -1; ask 9 0 1 = -1; crossings = 1");
        check.run("19 the latest made none", "6 1 40", PAIR, "send 0 1 = 2; send 0 0 = 0; crossings = 0");
        check.run("19 the latest ask made none", "6 1 40", PAIR,
                "send 0 1 = 2; access 3 1; ask 0 1 1 = 0; crossings = 0");
        check.run("19 what reaches no one counts", "6 1 40", PAIR,
                "trunk 3 1 15; send 0 1 = 0; crossings = 1");
        check.run("19 those of an ask together", "6 1 40", ROUTED, "ask 0 1 1 = 4; crossings = 5");
        check.run("19 other calls leave it", "6 1 40", PAIR,
                "send 0 1 = 2; tick 60; access 0 1; bridge 0; wire 4 5 1; crossings = 1");
    }
}
