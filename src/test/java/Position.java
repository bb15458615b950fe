import java.util.function.Consumer;

/** How an object can stand when a call comes; each makes a new one, by few of its 512 calls. */
enum Position {
    NEW(b -> { }),
    BARGE_WAITS(b -> b.come(true, 3)),
    CART_WAITS(b -> b.come(false, 6)),
    BRIDGE_BETWEEN(b -> {
        b.come(true, 1);
        b.come(false, 2);
        b.pass(7);
    }),
    BRIDGE_UP(b -> {
        b.come(true, 4);
        b.come(false, 1);
        b.pass(20);
    }),
    CART_PASSES(b -> {
        b.come(false, 6);
        b.come(true, 1);
        b.come(false, 2);
        b.pass(2);
    }),
    BARGE_PASSES_BY_TURNS(b -> {
        b.ring(3);
        b.come(true, 6);
        b.come(true, 2);
        b.come(false, 3);
        b.pass(23);
    }),
    BARGE_WAS_THE_LATEST(b -> {
        b.come(true, 1);
        b.pass(21);
        b.come(true, 2);
        b.come(false, 3);
        b.ring(3);
    }),
    CART_WAS_THE_LATEST(b -> {
        b.come(false, 1);
        b.pass(1);
        b.come(false, 2);
        b.come(true, 3);
        b.ring(3);
    }),
    ONE_OF_EACH_STATE(b -> {
        b.come(false, 1);
        b.come(false, 6);
        b.come(true, 2);
        b.come(true, 5);
        b.pass(3);
        b.leave(2);
    }),
    ALL_HAVE_PASSED(b -> {
        b.come(false, 1);
        b.come(false, 2);
        b.come(false, 1);
        b.pass(9);
    }),
    NOBODY_IS_SERVED(b -> {
        b.come(true, 1);
        b.come(false, 1);
        b.pass(5);
        b.ring(4);
    }),
    MOST_ICE(b -> {
        for (int hour = 0; hour < 8; hour++) {
            b.setCold(hour, hour < 5 ? 3 : -hour / 3);
        }
        b.pass(190);
        b.come(true, 2);
        b.come(false, 2);
        b.pass(10);
    }),
    FORTY_WAIT(b -> {
        for (int traveller = 0; traveller < 40; traveller++) {
            b.come(traveller % 3 != 0, 1 + traveller % 6);
        }
        b.ring(2);
    }),
    FORTY_ON_THEIR_WAY(b -> {
        for (int traveller = 0; traveller < 40; traveller++) {
            b.come(traveller % 2 == 0, 6 - traveller % 6);
        }
        b.setCold(0, 2);
        b.setCold(2, 3);
        b.ring(2);
        b.pass(40);
        b.leave(38);
        b.ring(1);
        b.pass(62);
    }),
    FORTY_WENT_AWAY(b -> {
        for (int traveller = 0; traveller < 40; traveller++) {
            b.come(traveller % 2 == 0, 1);
        }
        b.ring(4);
        b.pass(1);
        for (int traveller = 0; traveller < 40; traveller++) {
            b.leave(traveller);
        }
    }),
    LATE(b -> {
        b.setCold(3, 1);
        for (int day = 0; day < 60; day++) {
            b.pass(240);
        }
        b.come(false, 3);
        b.come(true, 3);
        b.pass(1);
    });

    private final Consumer<BridgeBells> calls;

    Position(Consumer<BridgeBells> calls) {
        this.calls = calls;
    }

    BridgeBells make() {
        BridgeBells bells = new BridgeBells();
        calls.accept(bells);
        return bells;
    }

    int travellers() {
        return make().count(5);
    }

    int angle() {
        return make().count(1);
    }
}
