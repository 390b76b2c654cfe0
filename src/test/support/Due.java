import java.nio.charset.StandardCharsets;

/** What the project's tests share: they count the answers that are not as due. */
final class Due {
    private static int wrong = 0;
    private static String sentence = "";

    private Due() {
    }

    /** The words of the document by which the next answers are due; "" if none are told. */
    static void says(String words) {
        sentence = words;
    }

    static void is(String call, long got, long want) {
        if (got != want) {
            fails(call + " answered " + got + ", due is " + want);
        }
    }

    static void same(String call, String got, String want) {
        if (!got.equals(want)) {
            fails(call + ": " + got + ", due is: " + want);
        }
    }

    private static void fails(String what) {
        wrong++;
        System.out.println(sentence.isEmpty() ? what : what + " [" + sentence + "]");
    }

    /** Types a text, eight bytes a call. */
    static int typed(ReadPass x, String text) {
        byte[] bytes = text.getBytes(StandardCharsets.ISO_8859_1);
        int length = 0;
        for (int i = 0; i < bytes.length; i += 8) {
            int n = Math.min(8, bytes.length - i);
            long w = 0;
            for (int k = 0; k < n; k++) {
                w = w << 8 | bytes[i + k];
            }
            length = x.type(w, n);
        }
        return length;
    }

    /** A new object with a pass. */
    static ReadPass pass(String text) {
        ReadPass x = new ReadPass();
        is("type " + text, typed(x, text), text.length());
        int answer = x.pass();
        if (answer < 0) {
            is("pass " + text, answer, 0);
        }
        return x;
    }

    /** A new object with a pass, a home and a snow. */
    static ReadPass pass(String text, int home, int snow) {
        ReadPass x = pass(text);
        x.home(home);
        is("snow of " + text, x.snow(snow), 0);
        return x;
    }

    /** A sheet becomes a row of a lane with these items. */
    static void row(ReadPass x, int sheet, int lane, long... items) {
        is("sheet", x.sheet(sheet, lane, items.length), items.length);
        for (int i = 0; i < items.length; i++) {
            is("item", x.item(sheet, lane, i, items[i]), 1);
        }
    }

    /** A call in which one number stands for itself, the rest being right. */
    interface Call {
        long on(ReadPass x, int number);
    }

    /** Numbers from least to most are taken, those next to them and far from them are BAD. */
    static void numbers(String call, ReadPass x, int least, int most, Call c) {
        int[] far = {least - 1, most + 1, least + 32, least + 256, least + 65536, most - 256,
            Integer.MIN_VALUE, Integer.MIN_VALUE + most, Integer.MAX_VALUE};
        for (int number : far) {
            if (number < least || number > most) {
                is(call + " of " + number, c.on(x, number), ReadPass.BAD);
            }
        }
        for (int number = least; number <= most; number++) {
            if (c.on(x, number) == ReadPass.BAD) {
                fails(call + " of " + number + " answered BAD, but it may be so");
            }
        }
    }

    static void end() {
        if (wrong != 0) {
            System.out.println(wrong + " answers are not as due");
            System.exit(1);
        }
    }
}
