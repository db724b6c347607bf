import java.util.ArrayList;
import java.util.List;

/** Runs of 512 calls, drawn by a fixed rule, on the program and on the model: every answer is compared. */
public final class ModelTest {
    private static final int RUNS = 400;
    private static final int LAST_LOOKS = 60;
    private static final List<Ask> PARCELS = Desk.looksAtParcels();
    private static final List<Ask> USES = Desk.looksAtUses();
    private static final int[] ODD = {-1, 8, 64, 65, 32, -7, 1000, Integer.MAX_VALUE, Integer.MIN_VALUE};

    private final Desk desk = new Desk();
    private final Model model = new Model();
    private final int run;
    private final int nodeCount;
    private final int mostPlaces;
    private final int span;
    private final int cancelRate;
    private final int cutRate;
    private final int tickRate;
    private long seed;
    private int changes = 0;
    private int booked = 0;

    private ModelTest(int run) {
        this.run = run;
        seed = run * 7919L + 17;
        nodeCount = 2 + draw(7);
        mostPlaces = draw(5);
        span = 1 + draw(1 + draw(64));
        cancelRate = draw(4);
        cutRate = draw(6);
        tickRate = draw(12);
    }

    public static void main(String[] args) {
        for (int run = 1; run <= RUNS; run++) {
            new ModelTest(run).play();
        }
        Check.end();
    }

    private void play() {
        for (int n = nodeCount - 1; n >= 0; n--) {
            call("node", n, draw(mostPlaces + 1), 0, 0);
        }
        call("node", drawNode(), odd(draw(5)), 0, 0);
        for (int i = 0; i < 2 * nodeCount; i++) {
            drawContact();
        }
        while (desk.callsLeft() > LAST_LOOKS) {
            drawCall();
        }
        compare(PARCELS);
        while (desk.callsLeft() > 0) {
            drawLook();
        }
    }

    // The generator is written out so that each run is the same on every machine.
    private int draw(int below) {
        seed = seed * 6364136223846793005L + 1442695040888963407L;
        return (int) ((seed >>> 33) % below);
    }

    private int odd(int usual) {
        return draw(60) == 0 ? ODD[draw(ODD.length)] : usual;
    }

    private int drawTick() {
        int late = draw(20) == 0 ? -1 : draw(span);
        return odd(Math.min(64, model.now() + late));
    }

    private int drawAnyTick() {
        return odd(draw(2) == 0 ? draw(66) : model.now() - 1 + draw(6));
    }

    private int drawNode() {
        return odd(draw(30) == 0 ? draw(8) : draw(nodeCount));
    }

    private int drawHandle() {
        return odd(draw(booked + 1));
    }

    private void drawContact() {
        int from = drawTick();
        call("contact", drawNode(), drawNode(), from, draw(4) == 0 ? odd(64) : from + draw(span + 2));
    }

    private void drawCall() {
        int kind = draw(60);
        if (kind < 8) {
            call("book", drawNode(), drawNode(), drawTick(), 0);
        } else if (kind < 11) {
            call("whatIf", drawNode(), drawNode(), drawTick(), 0);
        } else if (kind < 13) {
            drawContact();
        } else if (kind < 13 + cutRate) {
            call("cut", drawNode(), drawNode(), 0, 0);
        } else if (kind < 19 + cancelRate) {
            call(kind < 19 ? "now" : "cancel", drawHandle(), 0, 0, 0);
        } else if (kind < 24 + tickRate) {
            call("tick", 0, 0, 0, 0);
        } else if (kind == 59) {
            call("node", drawNode(), odd(draw(5)), 0, 0);
        } else {
            drawLook();
        }
    }

    private void drawLook() {
        switch (draw(9)) {
            case 0 -> call("state", drawHandle(), 0, 0, 0);
            case 1 -> call("where", drawHandle(), 0, 0, 0);
            case 2 -> call("arrival", drawHandle(), 0, 0, 0);
            case 3 -> call("step", drawHandle(), drawAnyTick(), 0, 0);
            case 4 -> call("linkUsed", drawNode(), drawNode(), drawAnyTick(), 0);
            case 5 -> call("stored", drawNode(), drawAnyTick(), 0, 0);
            case 6 -> call("open", drawNode(), drawNode(), drawAnyTick(), 0);
            case 7 -> call("free", drawNode(), drawAnyTick(), 0, 0);
            default -> call("now", 0, 0, 0, 0);
        }
    }

    private void call(String name, int a, int b, int c, int d) {
        Ask ask = new Ask(name, a, b, c, d);
        String want = ask.outcome(model);
        Check.due(where() + ask, want, Check.outcome(() -> desk.make(ask)));
        while (model.state(booked) != 0) {
            booked++;
        }
        if (isChange(name)) {
            changes++;
            compareNowAndThen();
        }
    }

    private static boolean isChange(String name) {
        return name.equals("book") || name.equals("cancel") || name.equals("cut") || name.equals("tick");
    }

    private String where() {
        return "run " + run + ", " + desk.callsLeft() + " calls before its end: ";
    }

    // Few calls left make many fresh objects for the looks of one comparison, so late in a run there are none.
    private void compareNowAndThen() {
        if (changes % 10 == 0 && desk.callsLeft() > 150) {
            compare(PARCELS);
        }
        if (changes % 50 == 0 && desk.callsLeft() > 150) {
            compare(USES);
        }
    }

    private void compare(List<Ask> looks) {
        List<String> want = new ArrayList<>();
        for (Ask look : looks) {
            want.add(look.outcome(model));
        }
        Check.same(where() + "all looks", looks, want, desk.answersTo(looks));
    }
}
