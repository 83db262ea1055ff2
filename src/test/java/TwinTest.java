import java.util.ArrayList;
import java.util.List;

/**
 * Two objects get the same calls, and one of them others in between that must change nothing: calls
 * that are refused, and questions. All that is answered later must be the same for both.
 */
public final class TwinTest {
    private static final String LIMITS = "6 2 12";

    /** Ten wires, the last of them cut; two hosts, no router; places 15 and 19 are free. */
    private static final String MANY_WIRES =
            "bridge 3; bridge 1; bridge 2; bridge 0; bridge 5; bridge 4; wire 0 4 1; wire 5 8 2; wire 9 12 3;"
                    + "wire 13 16 1; wire 17 20 2; wire 21 1 3; wire 2 10 9; wire 6 14 8; wire 18 22 7; wire 3 23 1;"
                    + "cut 9 1; host 7 0; host 11 1";

    private static final String LIFE_OF_WIRES =
            "tick 1; tick 1; tick 1; tick 2; send 0 -1; tick 1; tick 7; send 1 -1; cut 3 1; tick 1; tick 1; tick 2;"
                    + "send 0 1; cut 0 1; cut 3 0; tick 1; tick 4; send 1 0; cut 0 0; tick 1; tick 1; tick 9; send 0 1";

    private static final String[] REFUSED_BY_WIRES = {
        "bridge 0", "bridge -1", "bridge 8", "wire 15 19 1", "wire 15 15 1", "wire 15 24 1", "wire -1 15 1",
        "wire 0 15 1", "wire 15 19 0", "wire 15 19 10", "host 15 4", "host 15 -1", "host 24 0", "host -1 0",
        "host 0 0", "host 7 0", "router 0", "router 7", "router 24", "router -1", "access 24 0", "access -1 0",
        "access 0 4", "access 0 -1", "trunk 24 0 15", "trunk -1 0 15", "trunk 0 4 15", "trunk 0 -1 15",
        "trunk 0 0 16", "trunk 0 0 -1", "cut 10 1", "cut -1 1", "cut 8 0", "cut 9 1", "tick -1", "tick 61",
        "send -1 0", "send 2 0", "send 0 2", "send 0 6", "send 0 -2", "ask -1 0 5", "ask 0 2 5", "ask 0 1 5",
        "ask 0 6 5"
    };

    /** A ring of six with a way across; six hosts of three subnets and the router; 11, 15, 19 are free. */
    private static final String MANY_HOSTS =
            "bridge 3; bridge 1; bridge 2; bridge 0; bridge 5; bridge 4; wire 0 4 1; wire 5 8 2; wire 9 12 3;"
                    + "wire 13 16 1; wire 17 20 2; wire 21 1 3; wire 2 10 9; trunk 0 0 15; trunk 4 0 15; trunk 5 0 15;"
                    + "trunk 8 0 15; trunk 9 0 15; trunk 12 0 15; trunk 13 0 15; trunk 16 0 15; trunk 17 0 15;"
                    + "trunk 20 0 15; trunk 21 0 15; trunk 1 0 15; trunk 2 0 15; trunk 10 0 15; router 23; trunk 23 0 15;"
                    + "host 3 0; host 6 1; host 7 0; host 14 1; host 18 2; host 22 0; access 6 1; access 14 1; access 18 2";

    private static final String LIFE_OF_HOSTS =
            "tick 1; tick 2; ask 0 1 1; tick 1; tick 1; send 4 6; tick 10; ask 0 2 7; ask 0 1 8; tick 1; cut 3 1;"
                    + "tick 1; ask 3 1 9; tick 1; tick 3; ask 4 3 10; send 5 -1; tick 1; cut 3 0; tick 1; tick 1; tick 4;"
                    + "send 2 0; tick 12; ask 5 4 11; tick 1";

    private static final String[] REFUSED_BY_HOSTS = {
        "bridge 0", "wire 11 0 1", "wire 3 11 1", "wire 23 11 1", "wire 11 11 1", "wire 11 15 0", "host 11 0",
        "host 3 0", "host 23 0", "router 11", "router 23", "router 3", "access 3 4", "trunk 23 0 16",
        "cut 7 1", "cut 4 0", "tick 61", "send 6 0", "send 6 -1", "send 0 7", "send 0 -2", "ask 6 0 5",
        "ask 0 6 5", "ask 0 -1 5", "ask 7 0 5"
    };

    private static final String[] NOTHING = {
        "tick 0", "role 0", "role 24", "state 4", "state -1", "root 0", "root 6", "held 4 4", "held 0 5",
        "held 4 6", "learned 0 0 0", "learned 0 4 0", "entries 0", "entries 6", "answer", "crossings"
    };

    private final Check check = new Check();

    public static void main(String[] args) {
        TwinTest test = new TwinTest();
        for (String refused : REFUSED_BY_WIRES) {
            test.between("refused " + refused, MANY_WIRES, LIFE_OF_WIRES, refused, true);
        }
        for (String refused : REFUSED_BY_HOSTS) {
            test.between("refused " + refused, MANY_HOSTS, LIFE_OF_HOSTS, refused, true);
        }
        for (String question : NOTHING) {
            test.between("question " + question, MANY_WIRES, LIFE_OF_WIRES, question, false);
            test.between("question " + question, MANY_HOSTS, LIFE_OF_HOSTS, question, false);
        }
        test.oneByOne("ticks of wires", MANY_WIRES, LIFE_OF_WIRES + "; tick 60");
        test.oneByOne("ticks of hosts", MANY_HOSTS, LIFE_OF_HOSTS + "; tick 60");
        test.check.end();
    }

    /** One twin gets the extra call after each call of its life. */
    private void between(String title, String build, String life, String extra, boolean isRefused) {
        CampusNet plain = Check.made(LIMITS);
        CampusNet twin = Check.made(LIMITS);
        same(title, plain, twin, calls(build));
        for (String call : calls(life)) {
            int got = Check.answerOf(twin, extra);
            if (isRefused) {
                check.due(title + " before " + call, got, isTruth(extra) ? 0 : -1);
            }
            same(title, plain, twin, List.of(call));
        }
        same(title, plain, twin, questions());
    }

    /** One twin makes its ticks one by one. */
    private void oneByOne(String title, String build, String life) {
        CampusNet plain = Check.made(LIMITS);
        CampusNet twin = Check.made(LIMITS);
        same(title, plain, twin, calls(build));
        for (String call : calls(life)) {
            if (call.startsWith("tick ")) {
                check.due(title + ": " + call, Check.answerOf(twin, call), timeAfter(plain, call));
            } else {
                same(title, plain, twin, List.of(call));
            }
        }
        same(title, plain, twin, questions());
    }

    private static int timeAfter(CampusNet net, String tick) {
        int n = Integer.parseInt(tick.substring("tick ".length()));
        for (int i = 0; i < n; i++) {
            net.tick(1);
        }
        return net.tick(0);
    }

    private void same(String title, CampusNet plain, CampusNet twin, List<String> calls) {
        for (String call : calls) {
            check.due(title + ": " + call, Check.answerOf(twin, call), Check.answerOf(plain, call));
        }
    }

    private static boolean isTruth(String call) {
        String name = call.substring(0, call.indexOf(' '));
        return List.of("router", "access", "trunk", "cut").contains(name);
    }

    private static List<String> calls(String row) {
        List<String> calls = new ArrayList<>();
        for (String call : row.split(";")) {
            calls.add(call.trim());
        }
        return calls;
    }

    private static List<String> questions() {
        List<String> calls = new ArrayList<>(List.of("tick 0", "answer", "crossings"));
        for (int p = 0; p <= 24; p++) {
            calls.addAll(List.of("role " + p, "state " + p, "held " + p + " 0", "held " + p + " 4", "held " + p + " 5"));
        }
        for (int b = 0; b <= 6; b++) {
            calls.addAll(List.of("root " + b, "entries " + b));
        }
        // What no question tells shows in what comes next: a host or a wire more than it should be.
        calls.addAll(List.of("wire 15 19 1", "host 15 0", "router 19", "tick 1", "root 0", "root 3", "tick 3", "root 3"));
        calls.addAll(List.of("send 0 -1", "crossings", "tick 1", "send 1 -1", "ask 0 1 3", "crossings", "answer"));
        return calls;
    }
}
