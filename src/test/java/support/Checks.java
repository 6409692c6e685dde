/** What the tests share: comparing answers, expecting exceptions, and typing order texts. */
final class Checks {
    interface Call {
        float answer();
    }

    private static int wrong = 0;
    private static int checked = 0;

    private Checks() {
    }

    static void due(String what, double got, double want) {
        checked++;
        if (got != want) {
            wrong++;
            System.out.println(what + " answered " + got + ", due is " + want);
        }
    }

    static void dueText(String what, String got, String want) {
        checked++;
        if (!got.equals(want)) {
            wrong++;
            System.out.println(what + ":\n  is  " + got + "\n  due " + want);
        }
    }

    /** The call throws exactly this exception, and everything that can be asked stays the same. */
    static void refused(MarbleGates x, String what, Class<?> exception, Call call) {
        String before = view(x);
        dueText(what, outcome(call), exception.getName());
        dueText(what + " changes nothing", view(x), before);
    }

    static void refusedAsIndex(MarbleGates x, String what, Call call) {
        refused(x, what, IndexOutOfBoundsException.class, call);
    }

    static void refusedAsArgument(MarbleGates x, String what, Call call) {
        refused(x, what, IllegalArgumentException.class, call);
    }

    static void refusedAsState(MarbleGates x, String what, Call call) {
        refused(x, what, IllegalStateException.class, call);
    }

    static String outcome(Call call) {
        try {
            return String.valueOf(call.answer());
        } catch (RuntimeException e) {
            return e.getClass().getName();
        }
    }

    /** The state, without the saved states and the buffer, as far as the plain queries tell it. */
    static String stateView(MarbleGates x) {
        StringBuilder all = new StringBuilder();
        for (int what = 0; what < 10; what++) {
            all.append(x.count(what)).append(' ');
        }
        for (int gate = 0; gate < x.count(1); gate++) {
            all.append("| gate ");
            for (int what = 0; what < 8; what++) {
                all.append(x.gateOf(gate, what)).append(' ');
            }
        }
        for (int bin = 0; bin < 5; bin++) {
            all.append("| bin ").append(x.bin(bin, 0)).append(' ').append(x.bin(bin, 1)).append(' ');
        }
        for (int rank = 0; rank < x.count(3); rank++) {
            all.append("| ball ").append(x.ball(rank, 0)).append(' ').append(x.ball(rank, 1)).append(' ')
                    .append(x.ball(rank, 2)).append(' ');
        }
        for (int index = 0; index < x.notes(0); index++) {
            all.append("| ").append(x.note(index, 0)).append(' ').append(x.note(index, 1)).append(' ')
                    .append(x.note(index, 2)).append(' ');
        }
        return all.toString();
    }

    static String view(MarbleGates x) {
        return stateView(x) + "| saved " + x.count(10) + " buffer " + x.count(11) + " " + x.firstError();
    }

    static void type(MarbleGates x, String text) {
        x.clearBuffer();
        for (int i = 0; i < text.length(); i++) {
            x.append(text.charAt(i));
        }
    }

    /** A run with gates of these pitches, both exits of each leading to the bin 0. */
    static MarbleGates gates(int... pitches) {
        MarbleGates x = new MarbleGates();
        for (int pitch : pitches) {
            x.gate(pitch);
        }
        return x;
    }

    static void end(String name) {
        System.out.println(name + ": " + checked + " checks, " + wrong + " wrong");
        if (wrong > 0 || checked == 0) {
            System.exit(1);
        }
    }
}
