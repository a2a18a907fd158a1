/** Promise 13: the first 600 bytes that the console said. */
public final class P13OctetTest {
    public static void main(String[] args) {
        DrumLayers x = new DrumLayers(4, 1, 1);
        Bench.due("nothing said", x.octet(0), -1);
        Bench.line(x, "x");
        Bench.due("not before its step", x.octet(0), -1);
        x.tick(1);
        Bench.due("?", x.octet(0), '?');
        Bench.due("10", x.octet(1), 10);
        Bench.due("no more", x.octet(2), -1);
        for (int e : Bench.EXTREMES) {
            Bench.due("octet(" + e + ")", x.octet(e), -1);
        }
        sayings();
        only600();
        Bench.finish();
    }

    private static void sayings() {
        DrumLayers x = new DrumLayers(12, 1, 1);
        for (int k = 0; k < 6; k++) {
            Bench.submit(x, 0, Bench.ASK, k == 5 ? -1 : Bench.END);
        }
        for (int k = 5; k >= 0; k--) {
            Bench.line(x, "A" + k);
            Bench.go(x, 7);
        }
        Bench.dueSaid("all ask", x, "5?\n4?\n3?\n2?\n1?\n0?\n");
        for (int k = 0; k < 6; k++) {
            Bench.line(x, "R" + k + " 1");
            Bench.go(x, 5);
        }
        Bench.dueSaid("all are over", x, "5?\n4?\n3?\n2?\n1?\n0?\n0=1\n1=1\n2=1\n3=1\n4=1\n5=4\n");
    }

    private static void only600() {
        DrumLayers x = new DrumLayers(4, 1, 1);
        Bench.submit(x, 0, Bench.ASK);
        Bench.line(x, "A0");
        Bench.go(x, 10);
        Bench.sayWrong(x, 298);
        Bench.due("599 bytes", x.about(7), 599);
        Bench.due("byte 598", x.octet(598), 10);
        Bench.due("no byte 599", x.octet(599), -1);
        Bench.sayWrong(x, 1);
        Bench.due("601 bytes said", x.about(7), 601);
        Bench.due("byte 599", x.octet(599), '?');
        Bench.due("byte 600 is not kept", x.octet(600), -1);
        Bench.sayWrong(x, 1);
        Bench.due("603 bytes said", x.about(7), 603);
        Bench.due("byte 602 is not kept", x.octet(602), -1);
        Bench.due("byte 0 is as it was", x.octet(0), '0');
    }
}
