/** Tries a call at the least and the most of each of its arguments, and just beyond, on exchanges made anew. */
final class Bounds {
    interface Start {
        Openbook make();
    }

    interface Form {
        long call(Openbook x, int... arguments);
    }

    /** An argument: which one, what is wrong beyond its range, and the range. */
    record Argument(int place, boolean isPlace, int least, int most, int... besides) {
        boolean takes(int value) {
            for (int other : besides) {
                if (value == other) {
                    return !(value >= least && value <= most);
                }
            }
            return value >= least && value <= most;
        }
    }

    private final Check check;
    private final String name;
    private final Start good;
    private final Start bad;
    private final Form form;
    private final int[] base;

    /** With the base the call answers on a good start, and throws an IllegalStateException on a bad one, if there is one. */
    Bounds(Check check, String name, Start good, Start bad, Form form, int... base) {
        this.check = check;
        this.name = name;
        this.good = good;
        this.bad = bad;
        this.form = form;
        this.base = base;
    }

    /** An argument of which nothing is there beyond the range. */
    static Argument there(int place, int least, int most) {
        return new Argument(place, true, least, most);
    }

    /** An argument that is out of range beyond it; a value besides is in it if it is not within, and out of it if it is. */
    static Argument within(int place, int least, int most, int... besides) {
        return new Argument(place, false, least, most, besides);
    }

    void hold(Argument... arguments) {
        check.part(name);
        check.answers(name + " at its base", good.make(), x -> form.call(x, base));
        if (bad != null) {
            Openbook x = bad.make();
            check.state(name + " as things stand", x, () -> form.call(x, base));
        }
        for (Argument argument : arguments) {
            acceptsEnds(argument);
            refusesBeyond(argument);
            for (Argument other : arguments) {
                if (argument.isPlace() && !other.isPlace()) {
                    placeComesFirst(argument, other);
                }
            }
        }
    }

    private int[] with(int[] of, int place, int value) {
        int[] changed = of.clone();
        changed[place] = value;
        return changed;
    }

    private void acceptsEnds(Argument argument) {
        for (int value : new int[] {argument.least(), argument.least() + 1, argument.most() - 1, argument.most()}) {
            if (argument.takes(value)) {
                int[] changed = with(base, argument.place(), value);
                check.answers(name + ", argument " + argument.place() + " is " + value, good.make(),
                        x -> form.call(x, changed));
            }
        }
        for (int value : argument.besides()) {
            if (argument.takes(value)) {
                int[] changed = with(base, argument.place(), value);
                check.answers(name + ", argument " + argument.place() + " is " + value, good.make(),
                        x -> form.call(x, changed));
            }
        }
    }

    private int[] beyond(Argument argument) {
        int[] values = new int[6 + argument.besides().length];
        values[0] = argument.least() - 1;
        values[1] = argument.most() + 1;
        values[2] = Integer.MIN_VALUE;
        values[3] = Integer.MAX_VALUE;
        values[4] = Openbook.NONE - 1;
        values[5] = Openbook.NONE + 1;
        System.arraycopy(argument.besides(), 0, values, 6, argument.besides().length);
        return values;
    }

    private void refusesBeyond(Argument argument) {
        for (int value : beyond(argument)) {
            if (!argument.takes(value)) {
                int[] changed = with(base, argument.place(), value);
                refused(argument, name + ", argument " + argument.place() + " is " + value, good.make(), changed);
                if (bad != null) {
                    refused(argument, name + ", ahead of its state, argument " + argument.place() + " is " + value,
                            bad.make(), changed);
                }
            }
        }
    }

    private void placeComesFirst(Argument place, Argument range) {
        int[] changed = with(with(base, place.place(), place.most() + 1), range.place(), range.most() + 1);
        refused(place, name + ", argument " + place.place() + " ahead of " + range.place(), good.make(), changed);
    }

    private void refused(Argument argument, String what, Openbook x, int[] changed) {
        if (argument.isPlace()) {
            check.place(what, x, () -> form.call(x, changed));
        } else {
            check.range(what, x, () -> form.call(x, changed));
        }
    }
}
