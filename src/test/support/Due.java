import java.nio.charset.StandardCharsets;

/** What the project's tests share: they count the answers that are not as due. */
final class Due {
    private static int wrong = 0;

    private Due() {
    }

    static void is(String call, long got, long want) {
        if (got != want) {
            wrong++;
            System.out.println(call + " answered " + got + ", due is " + want);
        }
    }

    /** Types a text, eight bytes a call. */
    static int typed(ReadPass x, String text) {
        byte[] bytes = text.getBytes(StandardCharsets.ISO_8859_1);
        int length = 0;
        for (int i = 0; i < bytes.length; i += 8) {
            int n = Math.min(8, bytes.length - i);
            long w = 0;
            for (int k = 0; k < n; k++) {
                w = w << 8 | bytes[i + k];
            }
            length = x.type(w, n);
        }
        return length;
    }

    /** A new object with a pass. */
    static ReadPass pass(String text) {
        ReadPass x = new ReadPass();
        is("type " + text, typed(x, text), text.length());
        int answer = x.pass();
        if (answer < 0) {
            is("pass " + text, answer, 0);
        }
        return x;
    }

    static void end() {
        if (wrong != 0) {
            System.out.println(wrong + " answers are not as due");
            System.exit(1);
        }
    }
}
