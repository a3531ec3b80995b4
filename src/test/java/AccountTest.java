/** Promises 22 to 27: shownOf, expected, atRisk, repeated, skew, fullest. */
final class AccountTest {
    public static void main(String[] args) {
        shownOf();
        expected();
        atRisk();
        repeated();
        skew();
        fullest();
        Check.end("AccountTest");
    }

    private static void shownOf() {
        BarrierFlow flow = Flows.of("source a records 4 seed 0;source b records 1 seed 2;sinks 2;instances 2;");
        flow.run(10);
        Check.due("22: open results are not shown", 0, () -> flow.shownOf(4));
        flow.begin(false);
        flow.run(10);
        int[] due = {1, 0, 0, 0, 2, 0, 0, 0, 1, 1, 0, 0, 0, 0, 0, 0};
        for (int k = 0; k < 16; k++) {
            int key = k;
            Check.due("22: key " + k, due[k], () -> flow.shownOf(key));
        }
        Check.illegal("22: key -1", () -> flow.shownOf(-1));
        Check.illegal("22: key 16", () -> flow.shownOf(16));
        flow.undo();
        Check.due("22: undone", 0, () -> flow.shownOf(4));
    }

    private static void expected() {
        BarrierFlow flow = Flows.of("source a records 4 seed 0;source b records 200 seed 0;");
        Check.due("23: the first of key 4", 8, () -> flow.expected(4, 1));
        Check.due("23: the first two", 23, () -> flow.expected(4, 2));
        Check.due("23: no third", -1, () -> flow.expected(4, 3));
        Check.due("23: no record of key 12", -1, () -> flow.expected(12, 1));
        Check.due("23: by far", -1, () -> flow.expected(4, Integer.MAX_VALUE));
        Check.due("23: no such source", -1, () -> flow.expected(2, 1));
        Check.due("23: no such source, either", -1, () -> flow.expected(15, 1));
        int sum = 0;
        int many = 0;
        for (int i = 0; i < 200; i++) {
            if (flow.record(1, i, 0) == 13) {
                sum += flow.record(1, i, 1);
                many++;
                int key = sum;
                int first = many;
                Check.due("23: key 13, the first " + first, key, () -> flow.expected(13, first));
            }
        }
        int all = many;
        Check.due("23: and no more of key 13", -1, () -> flow.expected(13, all + 1));
        Check.illegal("23: many 0", () -> flow.expected(4, 0));
        Check.illegal("23: many -1", () -> flow.expected(4, -1));
        Check.illegal("23: many 0 without source", () -> flow.expected(2, 0));
        Check.illegal("23: key 16", () -> flow.expected(16, 1));
        Check.illegal("23: key -1", () -> flow.expected(-1, 1));
        flow.run(20);
        Check.due("23: whatever was handled", 23, () -> flow.expected(4, 2));
    }

    private static void atRisk() {
        BarrierFlow flow = Flows.of("source a records 9 seed 0;source b records 3 seed 0;");
        Check.due("24: none at first", 0, flow::atRisk);
        flow.run(2);
        Check.due("24: without checkpoint all", 4, flow::atRisk);
        flow.begin(true);
        Check.due("24: one in progress does not help", 4, flow::atRisk);
        flow.run(1);
        // both sources noted 2 before they sent their third records
        Check.due("24: behind the completed one", 2, flow::atRisk);
        flow.run(3);
        Check.due("24: source 1 has no more", 5, flow::atRisk);
        flow.fail();
        Check.due("24: behind a failure", 0, flow::atRisk);
    }

    private static void repeated() {
        BarrierFlow flow = Flows.of("source a records 200 seed 0;source b records 3 seed 0;room 9;instances 2;");
        Check.due("25: none was sent", 0.0f, flow::repeated);
        flow.run(4);
        Check.due("25: none again", 0.0f, flow::repeated);
        flow.fail();
        // 4 of source 0 and 3 of source 1, all to be sent again
        Check.due("25: all", 1.0f, flow::repeated);
        flow.run(1);
        Check.due("25: 7 of 9", 7.0f / 9.0f, flow::repeated);
        flow.run(3);
        Check.due("25: 7 of 14", 0.5f, flow::repeated);
        flow.undo();
        Check.due("25: undone", 7.0f / 9.0f, flow::repeated);
    }

    private static void skew() {
        BarrierFlow flow = Flows.of("source a records 4 seed 0;instances 4;");
        Check.due("26: none was handled", 0.0, flow::skew);
        flow.run(1);
        // instance 0 one record, the other ones none
        Check.due("26: all by one of four", 4.0, flow::skew);
        flow.run(1);
        Check.due("26: two of four", 2.0, flow::skew);
        flow.run(1);
        // keys 0, 4, 4: instance 0 one record, instance 2 two
        Check.due("26: 2 by a mean of 3 / 4", 2.0 / 0.75, flow::skew);
        flow.fail();
        Check.due("26: since the latest failure", 0.0, flow::skew);
        flow.run(1);
        flow.rescale(3);
        Check.due("26: since the latest rescaling", 0.0, flow::skew);
        flow.run(4);
        // keys 0, 4, 4, 8: owners 0, 1, 1, 0
        Check.due("26: 2 by a mean of 4 / 3", 2.0 / (4.0 / 3.0), flow::skew);
        BarrierFlow one = Flows.of("source a records 4 seed 0;");
        one.run(3);
        Check.due("26: a single instance", 1.0, one::skew);
    }

    private static void fullest() {
        BarrierFlow flow = Flows.of("source a records 9 seed 3;source b records 9 seed 0;source c records 9 seed 0;instances 2;");
        Check.due("27: all are empty", -1, flow::fullest);
        flow.run(1);
        // keys 12, 1 and 2: to instances 1, 0 and 0; instance 0 took that of source 1
        Check.due("27: source 2, instance 0", 20, flow::fullest);
        flow.setRoom(9);
        flow.run(12);
        int best = -1;
        int most = 0;
        for (int s = 0; s < 3; s++) {
            for (int i = 0; i < 2; i++) {
                if (flow.inChannel(s, i, false) > most) {
                    most = flow.inChannel(s, i, false);
                    best = 10 * s + i;
                }
            }
        }
        int due = best;
        Check.due("27: the one that holds most", due, flow::fullest);
        ties();
    }

    private static void ties() {
        // seed 1: keys begin at 4, group 4, owner 1 of 2; seed 0: group 0 and 1, owner 0
        BarrierFlow flow = Flows.of("source a records 1 seed 0;source b records 1 seed 0;source c records 1 seed 0;");
        flow.run(1);
        Check.due("27: of several the smallest source", 10, flow::fullest);
        flow.run(1);
        Check.due("27: the last one", 20, flow::fullest);
        flow.run(1);
        Check.due("27: empty again", -1, flow::fullest);
        BarrierFlow barriers = Flows.of("source a records 0 seed 0;source b records 0 seed 0 lag 5;");
        barriers.begin(false);
        barriers.run(1);
        Check.due("27: barriers do not count", -1, barriers::fullest);
        BarrierFlow instances = Flows.of("source a records 9 seed 0 lag 0;source b records 9 seed 0 lag 9;instances 2;");
        instances.begin(false);
        instances.run(3);
        // source 0 is blocked with a record for instance 0 and two for instance 1
        Check.due("16: one for instance 0", 1, () -> instances.inChannel(0, 0, false));
        Check.due("16: two for instance 1", 2, () -> instances.inChannel(0, 1, false));
        Check.due("27: the second instance", 1, instances::fullest);
        instances.run(1);
        Check.due("16: now two for instance 0", 2, () -> instances.inChannel(0, 0, false));
        Check.due("27: of several the smallest instance", 0, instances::fullest);
    }
}
