/** Runs of up to 512 calls, drawn by a fixed rule, on the program and on the model: every answer is compared. */
public final class ModelTest {
    private static final int RUNS = 400;
    private static final int CALLS = 512;
    private static final int[] ODD = {-1, 8, 64, 65, 32, -7, 1000, Integer.MAX_VALUE, Integer.MIN_VALUE};

    private final RelayPassages desk = new RelayPassages();
    private final Model model = new Model();
    private final int run;
    private final int nodeCount;
    private final int mostPlaces;
    private final int span;
    private final int cancelRate;
    private final int cutRate;
    private final int tickRate;
    private long seed;
    private int calls = 0;
    private int booked = 0;

    private ModelTest(int run) {
        this.run = run;
        seed = run * 7919L + 17;
        nodeCount = 2 + draw(7);
        mostPlaces = draw(5);
        span = 1 + draw(1 + draw(64));
        cancelRate = draw(4);
        cutRate = draw(6);
        tickRate = draw(12);
    }

    public static void main(String[] args) {
        for (int run = 1; run <= RUNS; run++) {
            new ModelTest(run).play();
        }
        Check.end();
    }

    private void play() {
        for (int n = nodeCount - 1; n >= 0; n--) {
            call("node", n, draw(mostPlaces + 1), 0, 0);
        }
        call("node", drawNode(), odd(draw(5)), 0, 0);
        for (int i = 0; i < 2 * nodeCount; i++) {
            drawContact();
        }
        while (calls < CALLS - 60) {
            drawCall();
        }
        while (calls < CALLS) {
            drawLook();
        }
    }

    // The generator is written out so that each run is the same on every machine.
    private int draw(int below) {
        seed = seed * 6364136223846793005L + 1442695040888963407L;
        return (int) ((seed >>> 33) % below);
    }

    private int odd(int usual) {
        return draw(60) == 0 ? ODD[draw(ODD.length)] : usual;
    }

    private int drawTick() {
        int late = draw(20) == 0 ? -1 : draw(span);
        return odd(Math.min(64, model.now() + late));
    }

    private int drawAnyTick() {
        return odd(draw(2) == 0 ? draw(66) : model.now() - 1 + draw(6));
    }

    private int drawNode() {
        return odd(draw(30) == 0 ? draw(8) : draw(nodeCount));
    }

    private int drawHandle() {
        return odd(draw(booked + 1));
    }

    private void drawContact() {
        int from = drawTick();
        call("contact", drawNode(), drawNode(), from, draw(4) == 0 ? odd(64) : from + draw(span + 2));
    }

    private void drawCall() {
        int kind = draw(60);
        if (kind < 8) {
            call("book", drawNode(), drawNode(), drawTick(), 0);
        } else if (kind < 11) {
            call("whatIf", drawNode(), drawNode(), drawTick(), 0);
        } else if (kind < 13) {
            drawContact();
        } else if (kind < 13 + cutRate) {
            call("cut", drawNode(), drawNode(), 0, 0);
        } else if (kind < 19 + cancelRate) {
            call(kind < 19 ? "now" : "cancel", drawHandle(), 0, 0, 0);
        } else if (kind < 24 + tickRate) {
            call("tick", 0, 0, 0, 0);
        } else if (kind == 59) {
            call("node", drawNode(), odd(draw(5)), 0, 0);
        } else {
            drawLook();
        }
    }

    private void drawLook() {
        switch (draw(9)) {
            case 0 -> call("state", drawHandle(), 0, 0, 0);
            case 1 -> call("where", drawHandle(), 0, 0, 0);
            case 2 -> call("arrival", drawHandle(), 0, 0, 0);
            case 3 -> call("step", drawHandle(), drawAnyTick(), 0, 0);
            case 4 -> call("linkUsed", drawNode(), drawNode(), drawAnyTick(), 0);
            case 5 -> call("stored", drawNode(), drawAnyTick(), 0, 0);
            case 6 -> call("open", drawNode(), drawNode(), drawAnyTick(), 0);
            case 7 -> call("free", drawNode(), drawAnyTick(), 0, 0);
            default -> call("now", 0, 0, 0, 0);
        }
    }

    private void call(String name, int a, int b, int c, int d) {
        calls++;
        String what = "run " + run + ", call " + calls + ": " + name + "(" + a + ", " + b + ", " + c + ", " + d + ")";
        Check.due(what, Check.outcome(() -> ofModel(name, a, b, c, d)), Check.outcome(() -> ofDesk(name, a, b, c, d)));
        while (model.state(booked) != 0) {
            booked++;
        }
        if (isChange(name)) {
            compareAll(what);
        }
    }

    private static boolean isChange(String name) {
        return name.equals("book") || name.equals("cancel") || name.equals("cut") || name.equals("tick");
    }

    /** Looks beyond the drawn calls: the looks of the face change nothing, so they may be as many as we like. */
    private void compareAll(String what) {
        long want = 0;
        long got = 0;
        for (int h = 0; h < 32; h++) {
            want = mix(mix(mix(want, model.state(h)), model.where(h)), model.arrival(h));
            got = mix(mix(mix(got, desk.state(h)), desk.where(h)), desk.arrival(h));
            for (int t = 0; t <= 64; t++) {
                want = mix(want, model.step(h, t));
                got = mix(got, desk.step(h, t));
            }
        }
        Check.due("all parcels after " + what, want, got);
        if (run % 10 == 0) {
            compareUses(what);
        }
    }

    private void compareUses(String what) {
        long want = 0;
        long got = 0;
        for (int t = 0; t < 64; t++) {
            for (int a = 0; a < 8; a++) {
                want = mix(mix(want, model.stored(a, t)), model.free(a, t));
                got = mix(mix(got, desk.stored(a, t)), desk.free(a, t));
                for (int b = 0; b < 8; b++) {
                    want = mix(mix(want, model.linkUsed(a, b, t)), model.open(a, b, t) ? 1 : 0);
                    got = mix(mix(got, desk.linkUsed(a, b, t)), desk.open(a, b, t) ? 1 : 0);
                }
            }
        }
        Check.due("all uses after " + what, want, got);
    }

    private static long mix(long sum, int answer) {
        return sum * 1000003L + answer;
    }

    private long ofDesk(String name, int a, int b, int c, int d) {
        return switch (name) {
            case "node" -> desk.node(a, b);
            case "contact" -> desk.contact(a, b, c, d);
            case "now" -> desk.now();
            case "book" -> desk.book(a, b, c);
            case "whatIf" -> desk.whatIf(a, b, c);
            case "cancel" -> desk.cancel(a);
            case "cut" -> desk.cut(a, b);
            case "tick" -> desk.tick();
            case "state" -> desk.state(a);
            case "where" -> desk.where(a);
            case "arrival" -> desk.arrival(a);
            case "step" -> desk.step(a, b);
            case "linkUsed" -> desk.linkUsed(a, b, c);
            case "stored" -> desk.stored(a, b);
            case "open" -> desk.open(a, b, c) ? 1 : 0;
            default -> desk.free(a, b);
        };
    }

    private long ofModel(String name, int a, int b, int c, int d) {
        return switch (name) {
            case "node" -> model.node(a, b);
            case "contact" -> model.contact(a, b, c, d);
            case "now" -> model.now();
            case "book" -> model.book(a, b, c);
            case "whatIf" -> model.whatIf(a, b, c);
            case "cancel" -> model.cancel(a);
            case "cut" -> model.cut(a, b);
            case "tick" -> model.tick();
            case "state" -> model.state(a);
            case "where" -> model.where(a);
            case "arrival" -> model.arrival(a);
            case "step" -> model.step(a, b);
            case "linkUsed" -> model.linkUsed(a, b, c);
            case "stored" -> model.stored(a, b);
            case "open" -> model.open(a, b, c) ? 1 : 0;
            default -> model.free(a, b);
        };
    }
}
