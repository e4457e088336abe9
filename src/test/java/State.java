/** All that calls tell of an object's state, but for its image. */
final class State {
    private State() {
    }

    static String of(NoTwoTouch x) {
        StringBuilder s = new StringBuilder();
        for (int what = 0; what < 8; what++) {
            s.append(x.count(what)).append(' ');
        }
        for (int a = 0; a < 6; a++) {
            s.append(x.field(a, 0)).append(',').append(x.field(a, 1)).append(',').append(x.field(a, 2)).append(' ');
            for (int b = 0; b < a; b++) {
                s.append(x.touch(a, b));
            }
            for (int p = 0; p < 3; p++) {
                s.append(' ').append(x.worth(p, a));
            }
        }
        for (int p = 0; p < 3; p++) {
            s.append(' ').append(x.person(p, 0)).append(',').append(x.person(p, 1));
        }
        for (int what = 0; what < 2; what++) {
            int is = x.law(what, 0);
            x.law(what, is);
            s.append(" law ").append(is);
        }
        for (int d = 0; d < 8; d++) {
            s.append(' ').append(x.fee(d)).append(',').append(x.toss(d)).append(',').append(x.may(d, 1));
            for (int i = 0; i < 101; i++) {
                if (Due.thrownByElement(x, d, i) != 0) {
                    break;
                }
                s.append(' ').append(x.element(d, i));
            }
        }
        return s.toString();
    }
}
