/** All that can be seen of an object, as one text: two objects of like sights are alike for whoever calls them. */
final class Sight {
    private static final int FEW = 14;

    private Sight() {
    }

    /** Looks at everything, and uses the object up: what is remembered, THE IMAGE and the TAPE are tried out last. */
    static String ofAll(StoneBacks x) {
        StringBuilder sight = new StringBuilder(ofNow(x));
        sight.append(" fault ").append(x.fault());
        sight.append(" tape ").append(tapeLength(x));
        while (x.undo()) {
            sight.append(" undone ").append(inShort(x));
        }
        sight.append(" back ").append(x.back()).append(' ').append(inShort(x));
        sight.append(" text ").append(textOnTape(x)).append(' ').append(x.count(5)).append(' ').append(x.fault());
        return sight.toString();
    }

    /** What is now, but for the TAPE and fault(); nothing changes by looking. */
    static String ofNow(StoneBacks x) {
        StringBuilder sight = new StringBuilder("counts ").append(inShort(x));
        for (int p = 0; p < x.count(0); p++) {
            sight.append(" person");
            for (int what = 0; what < 12; what++) {
                sight.append(' ').append(x.person(p, what));
            }
            sight.append(" does ").append(x.does(p, 0)).append(' ').append(x.does(p, 1)).append(' ').append(x.does(p, 2));
        }
        for (int s = 0; s < x.count(1); s++) {
            sight.append(" stone");
            for (int what = 0; what < 6; what++) {
                sight.append(' ').append(x.stone(s, what));
            }
            sight.append(" led ").append(x.led(s, false)).append(' ').append(x.led(s, true));
        }
        for (int place = 0; place < 12; place++) {
            sight.append(" place ").append(x.place(place, 0)).append(' ').append(x.place(place, 1));
        }
        for (int ago = 0; ago < x.count(12); ago++) {
            sight.append(" row");
            for (int what = 0; what < 4; what++) {
                sight.append(' ').append(x.log(ago, what));
            }
        }
        return sight.toString();
    }

    private static String inShort(StoneBacks x) {
        StringBuilder sight = new StringBuilder();
        for (int what = 0; what < FEW; what++) {
            sight.append(x.count(what)).append(' ');
        }
        int seed = x.seed(0);
        x.seed(seed);
        return sight.append("seed ").append(seed).toString();
    }

    /** What feed answers tells the length; what it put behind is cut off again. */
    static int tapeLength(StoneBacks x) {
        int fed = x.feed(0, 0, 0, 0, 0);
        if (fed != StoneBacks.NONE) {
            x.end(fed - 20);
            return fed - 20;
        }
        int length = 400;
        while (!x.end(length)) {
            length--;
        }
        return length;
    }

    private static String textOnTape(StoneBacks x) {
        try {
            return "right " + x.valley();
        } catch (RuntimeException e) {
            return e.getClass().getSimpleName();
        }
    }
}
