/** All that can be seen of an object, without a call that answers a finding, as one text. */
final class Sight {
    private Sight() {
    }

    static String of(ProvedMachine x) {
        StringBuilder seen = new StringBuilder();
        for (int what = 1; what < 4; what++) {
            seen.append(" all").append(what).append('=').append(x.all(what));
        }
        code(x, seen);
        if (x.all(3) == 1) {
            machine(x, seen);
            heap(x, seen);
        }
        return seen.toString();
    }

    private static void code(ProvedMachine x, StringBuilder seen) {
        for (int place = 0; place < x.all(1); place++) {
            seen.append(' ').append(x.code(place, false)).append('/').append(x.code(place, true));
        }
        for (int f = 0; f < x.all(2); f++) {
            seen.append(" fun").append(f).append('=').append(x.fun(f, 0)).append(',').append(x.fun(f, 2));
        }
    }

    static void machine(ProvedMachine x, StringBuilder seen) {
        for (int what = 0; what < 9; what++) {
            seen.append(" now").append(what).append('=').append(x.now(what));
        }
        for (int i = 0; i < x.now(3); i++) {
            seen.append(" stack=").append(x.stack(i, false)).append(':').append(x.stack(i, true));
        }
        for (int i = 0; i < x.now(4); i++) {
            seen.append(" printed=").append(x.printed(i));
        }
        for (int i = 0; i < x.now(8); i += 7) {
            for (int k = 0; k < 4; k++) {
                seen.append(" proof=").append(x.proof(i, k));
            }
        }
        if (x.now(0) == 1) {
            seen.append(" result=").append(x.result());
        }
    }

    static void heap(ProvedMachine x, StringBuilder seen) {
        for (int o = 1; o <= 16; o++) {
            long is = x.object(o, 0);
            seen.append(" object").append(o).append('=').append(is);
            if (is == 0) {
                continue;
            }
            seen.append(',').append(x.object(o, 1));
            for (int i = 0; is == 1 && i < x.object(o, 1); i++) {
                seen.append(',').append(x.object(o, 10 + i));
            }
            if (is == 2) {
                seen.append(',').append(x.object(o, 2));
            }
        }
    }
}
