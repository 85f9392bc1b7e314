/** What the tests share: texts are fed, run, and what is answered is compared with what is due. */
final class Check {
    private static int wrong = 0;
    private static int done = 0;

    private Check() {
    }

    static void due(String what, long got, long want) {
        done++;
        if (got != want) {
            wrong++;
            System.out.println(what + ": answered " + got + ", due is " + want);
        }
    }

    static void due(String what, String got, String want) {
        done++;
        if (!got.equals(want)) {
            wrong++;
            System.out.println(what + ": answered \"" + got.replace("\n", "\\n") + "\", due is \""
                + want.replace("\n", "\\n") + "\"");
        }
    }

    static void end() {
        System.out.println(done + " answers, " + wrong + " not as due");
        if (wrong != 0) {
            System.exit(1);
        }
    }

    static void feed(OwnedPlaces x, String text) {
        int[] four = new int[5];
        for (int i = 0; i < text.length(); i += 20) {
            for (int k = 0; k < 5; k++) {
                four[k] = 0;
                for (int j = 0; j < 4; j++) {
                    int at = i + 4 * k + j;
                    four[k] = four[k] << 8 | (at < text.length() ? text.charAt(at) & 255 : 0);
                }
            }
            if (!x.feed(four[0], four[1], four[2], four[3], four[4])) {
                due("feed of " + text.length() + " bytes", 0, 1);
            }
        }
    }

    static String fetchAll(OwnedPlaces x) {
        StringBuilder all = new StringBuilder();
        for (int i = 0; i < 1000; i++) {
            long seven = x.fetch();
            int size = (int) (seven >>> 56);
            for (int k = 0; k < size; k++) {
                all.append((char) (seven >>> 48 - 8 * k & 255));
            }
            if (size == 0) {
                return all.toString();
            }
        }
        return all.toString();
    }

    /** A text with a fault 1 .. 6 at the byte behind the @, which is not fed itself. */
    static void fault(int fault, String marked) {
        int place = marked.indexOf('@');
        String text = marked.substring(0, place) + marked.substring(place + 1);
        OwnedPlaces x = new OwnedPlaces(500);
        feed(x, text);
        due("fault of " + marked, x.run(text.length(), 777), fault);
        due("place in " + marked, x.place(), place);
        due("fuel of " + marked, x.count(0), 777);
        due("cells of " + marked, x.count(1), 0);
        due("most cells of " + marked, x.count(2), 0);
        due("bytes of " + marked, x.count(4), 0);
        due("text behind " + marked, x.count(3), 0);
    }

    /** A text without a fault, that writes so. */
    static void writes(String text, String output) {
        runs(text, 20000, 0, output);
    }

    /** A text without a fault 1 .. 6. */
    static void fine(String text) {
        OwnedPlaces x = new OwnedPlaces(500);
        feed(x, text);
        int fault = x.run(text.length(), 20000);
        due("fault of " + text, fault >= 1 && fault <= 6 ? fault : 0, 0);
        due("place in " + text, x.place(), -1);
        due("text behind " + text, x.count(3), 0);
    }

    static OwnedPlaces runs(String text, int fuel, int fault, String output) {
        OwnedPlaces x = new OwnedPlaces(500);
        feed(x, text);
        due("fault of " + text, x.run(text.length(), fuel), fault);
        due("place in " + text, x.place(), -1);
        due("text behind " + text, x.count(3), 0);
        due("bytes of " + text, x.count(4), output.length());
        due("written by " + text, fetchAll(x), output);
        if (fault == 0) {
            due("cells in use behind " + text, x.count(1), 0);
        }
        return x;
    }

    /** The place and the six counts, in their order. */
    static void state(String what, OwnedPlaces x, int... placeAndCounts) {
        due("place " + what, x.place(), placeAndCounts[0]);
        for (int k = 0; k < 6; k++) {
            due("count " + k + " " + what, x.count(k), placeAndCounts[k + 1]);
        }
    }

    /** A new object with that text in it. */
    static OwnedPlaces fed(int cells, String text) {
        OwnedPlaces x = new OwnedPlaces(cells);
        feed(x, text);
        return x;
    }

    /** How many bytes are there when so many were fed, 20 at a time. */
    static int fedBytes(int length) {
        return (length + 19) / 20 * 20;
    }

    /** Bodies of main that are without a fault 1 .. 6 are so behind any others, run on the same object. */
    static void behind(String[] others, String[] fine) {
        for (String other : others) {
            for (String body : fine) {
                textBehind("fn main(){" + other + "}", "fn main(){" + body + "}");
            }
        }
    }

    static void textBehind(String other, String fine) {
        OwnedPlaces x = fed(500, other);
        x.run(other.length(), 50);
        feed(x, fine);
        int fault = x.run(fine.length(), 50);
        due("fault of " + fine + " behind " + other, fault >= 1 && fault <= 6 ? fault : 0, 0);
        due("place in " + fine + " behind " + other, x.place(), -1);
    }

    static String times(int times, String s) {
        StringBuilder all = new StringBuilder();
        for (int i = 0; i < times; i++) {
            all.append(s);
        }
        return all.toString();
    }
}
