/** Desks that several tests begin with. */
final class Desks {
    static final int FAR = 1 << 30;

    private Desks() {
    }

    /** Numbers that are never as said where low..high is. */
    static int[] wrongFor(int low, int high) {
        return new int[] {low - 1, high + 1, low - FAR, high + FAR, Integer.MIN_VALUE, Integer.MAX_VALUE};
    }

    static void type(SwitchDesk desk, int... bytes) {
        desk.clear(3, 0);
        for (int b : bytes) {
            desk.type(b);
        }
    }

    /** Header h has two fields of 8 bits, state 0 takes it out and accepts, and the ORDER is h. */
    static SwitchDesk withHeader(int h) {
        SwitchDesk desk = new SwitchDesk();
        desk.width(4 * h, 8);
        desk.width(4 * h + 1, 8);
        desk.state(0, h, -1, 8);
        desk.order(h);
        return desk;
    }

    /** Packets stay as they are; registers 0 and 1 tell port (METADATA 25) and QUEUE (METADATA 26). */
    static SwitchDesk routing() {
        SwitchDesk desk = new SwitchDesk();
        desk.operation(0, 11, 25, 0);
        desk.operation(0, 11, 26, 1);
        desk.step(1, 0, 0, 0);
        return desk;
    }

    static int route(SwitchDesk desk, int port, int queue, int... bytes) {
        desk.register(0, true, port);
        desk.register(1, true, queue);
        type(desk, bytes);
        return desk.send(0);
    }

    /** An OPERATION, for act. */
    static int[] op(int what, int f, int x) {
        return new int[] {what, f, x};
    }

    /** Sends the packet to port 0, where one action of these OPERATIONS is the only step. */
    static int act(SwitchDesk desk, int[]... operations) {
        desk.clear(0, 7);
        desk.clear(1, 0);
        for (int[] one : operations) {
            desk.operation(7, one[0], one[1], one[2]);
        }
        desk.step(1, 7, 0, 0);
        return desk.send(0);
    }

    /** The number that a field of a header gets from one action of one OPERATION. */
    static int after(SwitchDesk desk, int what, int f, int x) {
        act(desk, op(what, f, x));
        return desk.field(f);
    }
}
