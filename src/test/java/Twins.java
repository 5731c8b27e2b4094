/**
 * Two objects made alike, of which one alone gets a call. If that call changes nothing,
 * whatever can be asked of the two gets the same answers.
 */
final class Twins {
    interface Maker {
        TransformProduct make();
    }

    interface Asking {
        boolean of(TransformProduct x);
    }

    interface Reading {
        int of(TransformProduct x);
    }

    private static final int SOME = 20;

    private final Check check;
    private final String name;
    private final Maker maker;

    Twins(Check check, String name, Maker maker) {
        this.check = check;
        this.name = name;
        this.maker = maker;
    }

    /** Answers false and changes nothing. */
    void refuses(String call, Asking asking) {
        TransformProduct x = maker.make();
        check.no(name + ": " + call, asking.of(x));
        unchanged(call, x);
    }

    /** Answers true, and has nothing to change. */
    void grants(String call, Asking asking) {
        TransformProduct x = maker.make();
        check.yes(name + ": " + call, asking.of(x));
        unchanged(call, x);
    }

    /** Answers NONE and changes nothing. */
    void hasNone(String call, Reading reading) {
        reads(call, -1, reading);
    }

    /** Answers what is due and changes nothing. */
    void reads(String call, int due, Reading reading) {
        TransformProduct x = maker.make();
        check.same(name + ": " + call, reading.of(x), due);
        unchanged(call, x);
    }

    private void unchanged(String call, TransformProduct x) {
        check.text(name + ": all that is seen after " + call, allOf(x), allOf(maker.make()));
    }

    /** What only reads comes first; below 260 calls in all. */
    private static String allOf(TransformProduct x) {
        StringBuilder text = new StringBuilder();
        text.append("product").append(productOf(x));
        text.append(" butterflies ").append(x.butterflies());
        text.append(" compared ").append(x.compare());
        text.append(" spectra").append(spectraOf(x));
        for (int which = 0; which < 2; which++) {
            x.take(which);
            text.append(" row ").append(which).append(productOf(x));
        }
        for (int which = 0; which < 2; which++) {
            text.append(" room ").append(roomOf(x, which));
        }
        text.append(" ready ").append(!x.init());
        x.clear();
        x.feedA(32767);
        x.feedB(32766);
        x.multiply();
        return text.append(" afterwards").append(productOf(x)).append(spectraOf(x)).toString();
    }

    private static String productOf(TransformProduct x) {
        StringBuilder text = new StringBuilder(" [");
        int count = x.length();
        for (int i = 0; i < count; i++) {
            if (i < SOME || i >= count - SOME) {
                text.append(' ').append(x.digit(i));
            }
        }
        text.append(" ] of ").append(count);
        return text.append(" rests ").append(x.rest(999999937)).append(' ').append(x.rest(1000000000)).toString();
    }

    private static String spectraOf(TransformProduct x) {
        StringBuilder text = new StringBuilder();
        for (int which = 0; which < 2; which++) {
            for (int prime = 0; prime < 3; prime++) {
                text.append(' ').append(x.spectrum(which, prime, 1));
            }
        }
        return text.toString();
    }

    /** How many digits more there is room for, found bit by bit. */
    private static int roomOf(TransformProduct x, int which) {
        int room = 0;
        for (int times = 1024; times > 0; times /= 2) {
            room += x.repeat(which, 0, times) ? times : 0;
        }
        return room;
    }
}
