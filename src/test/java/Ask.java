/** One call of the face with its arguments (those that it does not take are 0), for the program or for the model. */
record Ask(String name, int a, int b, int c, int d) {
    static Ask of(String name, int... arguments) {
        int[] all = java.util.Arrays.copyOf(arguments, 4);
        return new Ask(name, all[0], all[1], all[2], all[3]);
    }

    /** The answer in writing, or the name of what was thrown. */
    String outcome(RelayPassages desk) {
        return Check.outcome(() -> answer(desk));
    }

    String outcome(Model model) {
        return Check.outcome(() -> answer(model));
    }

    long answer(RelayPassages desk) {
        return switch (name) {
            case "node" -> desk.node(a, b);
            case "contact" -> desk.contact(a, b, c, d);
            case "now" -> desk.now();
            case "book" -> desk.book(a, b, c);
            case "whatIf" -> desk.whatIf(a, b, c);
            case "cancel" -> desk.cancel(a);
            case "cut" -> desk.cut(a, b);
            case "tick" -> desk.tick();
            case "state" -> desk.state(a);
            case "where" -> desk.where(a);
            case "arrival" -> desk.arrival(a);
            case "step" -> desk.step(a, b);
            case "linkUsed" -> desk.linkUsed(a, b, c);
            case "stored" -> desk.stored(a, b);
            case "open" -> desk.open(a, b, c) ? 1 : 0;
            case "free" -> desk.free(a, b);
            default -> throw new AssertionError("the face has no " + name);
        };
    }

    long answer(Model model) {
        return switch (name) {
            case "node" -> model.node(a, b);
            case "contact" -> model.contact(a, b, c, d);
            case "now" -> model.now();
            case "book" -> model.book(a, b, c);
            case "whatIf" -> model.whatIf(a, b, c);
            case "cancel" -> model.cancel(a);
            case "cut" -> model.cut(a, b);
            case "tick" -> model.tick();
            case "state" -> model.state(a);
            case "where" -> model.where(a);
            case "arrival" -> model.arrival(a);
            case "step" -> model.step(a, b);
            case "linkUsed" -> model.linkUsed(a, b, c);
            case "stored" -> model.stored(a, b);
            case "open" -> model.open(a, b, c) ? 1 : 0;
            case "free" -> model.free(a, b);
            default -> throw new AssertionError("the face has no " + name);
        };
    }

    @Override
    public String toString() {
        int taken = switch (name) {
            case "now", "tick" -> 0;
            case "cancel", "state", "where", "arrival" -> 1;
            case "node", "cut", "step", "stored", "free" -> 2;
            case "contact" -> 4;
            default -> 3;
        };
        int[] arguments = {a, b, c, d};
        StringBuilder text = new StringBuilder(name).append('(');
        for (int i = 0; i < taken; i++) {
            text.append(i == 0 ? "" : ", ").append(arguments[i]);
        }
        return text.append(')').toString();
    }
}
