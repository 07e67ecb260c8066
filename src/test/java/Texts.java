import java.util.Random;

/** Texts of swaps by chance, good ones and spoilt ones. */
final class Texts {
    private static final String[] PIECES = {"swap", "frames", "step", "big", "data", "x", "store", "load", "drop", ";",
        ",", " ", "0", "1", "16", "17", "24", "25", "29", "30", "99", "100", "999", "1000", "0001", "a", "framess",
        "swapx", "$", "A", "\u0000", "\u00ff", "\t", ";;", "data 3 x 16;", "load 1;", ";drop 0", ";swap"};

    private Texts() {
    }

    static String good(Random r) {
        StringBuilder text = new StringBuilder();
        text.append("swap frames ").append(1 + r.nextInt(r.nextBoolean() ? 8 : 24));
        text.append(" step ").append(1 + r.nextInt(4)).append(" big ").append(15 - r.nextInt(r.nextInt(12) + 1));
        int data = r.nextInt(4) == 0 ? r.nextInt(11) : 6 + r.nextInt(5);
        int ops = r.nextInt(25);
        int pages = r.nextBoolean() ? 6 : 30;
        int told = 0;
        for (int left = data + ops; left > 0; left--) {
            String line;
            if (told < data && (r.nextInt(left) < data - told || r.nextInt(3) > 0)) {
                line = data(r);
                told++;
            } else {
                line = op(r, told, r.nextInt(pages));
            }
            if (text.length() + line.length() + 1 > 890) {
                break;
            }
            text.append(';').append(line);
        }
        return text.toString();
    }

    /** Room for many zones, and few data, so that many pages are of one class. */
    static String roomy(Random r) {
        StringBuilder text = new StringBuilder("swap frames ").append(12 + r.nextInt(13));
        text.append(" step ").append(1 + r.nextInt(4)).append(" big 15");
        for (int data = 1 + r.nextInt(3); data > 0; data--) {
            text.append(';').append(data(r));
        }
        for (int ops = r.nextInt(25); ops > 0; ops--) {
            text.append(";store ").append(r.nextInt(30)).append(" 0");
        }
        return text.toString();
    }

    private static String op(Random r, int told, int page) {
        if (told > 0 && r.nextInt(4) > 0) {
            return "store " + page + " " + r.nextInt(told);
        }
        return (r.nextBoolean() ? "load " : "drop ") + page;
    }

    private static String data(Random r) {
        int[] cells = cells(r);
        StringBuilder text = new StringBuilder("data ");
        for (int i = 0; i < 16;) {
            int alike = 1;
            while (i + alike < 16 && cells[i + alike] == cells[i]) {
                alike++;
            }
            int times = alike == 1 ? 1 : 1 + r.nextInt(alike);
            text.append(i == 0 ? "" : ",").append(cells[i]);
            if (times > 1 || r.nextInt(20) == 0) {
                text.append(r.nextBoolean() ? "x" : " x ").append(times);
            }
            i += times;
        }
        return text.toString();
    }

    static int[] cells(Random r) {
        int[] cells = new int[16];
        int values = r.nextInt(12) == 0 ? 1 : 2 + r.nextInt(r.nextInt(3) == 0 ? 98 : 4);
        int period = 1 + r.nextInt(8);
        int sort = r.nextInt(5);
        for (int i = 0; i < 16; i++) {
            boolean repeats = sort == 0 ? i > 0 && r.nextInt(3) > 0 : sort < 4 && i >= period && r.nextInt(8) > 0;
            cells[i] = repeats ? cells[i - (sort == 0 ? 1 : period)] : r.nextInt(values);
        }
        return cells;
    }

    /** A good text with some bytes spoilt. */
    static String spoilt(Random r) {
        StringBuilder text = new StringBuilder(good(r));
        for (int times = r.nextInt(3); times >= 0; times--) {
            int at = r.nextInt(text.length() + 1);
            int cut = Math.min(text.length(), at + r.nextInt(r.nextInt(6) + 1));
            switch (r.nextInt(4)) {
                case 0: text.delete(at, cut); break;
                case 1: text.insert(at, PIECES[r.nextInt(PIECES.length)]); break;
                case 2: text.replace(at, cut, PIECES[r.nextInt(PIECES.length)]); break;
                default: text.setLength(at); break;
            }
        }
        return atMost900(text);
    }

    /** A good text with numbers that are others, each of which may be out of bounds. */
    static String misnumbered(Random r) {
        StringBuilder text = new StringBuilder();
        for (String part : good(r).split("(?<=[0-9])(?=[^0-9])|(?<=[^0-9])(?=[0-9])")) {
            boolean other = Character.isDigit(part.charAt(0)) && r.nextInt(25) == 0;
            text.append(other ? String.valueOf(r.nextInt(r.nextBoolean() ? 32 : 110)) : part);
        }
        return atMost900(text);
    }

    /** Whole lines in any number and order, mostly behind the swap. */
    static String mixed(Random r) {
        StringBuilder text = new StringBuilder(r.nextInt(4) == 0 ? "" : "swap frames 4 step 2 big 12;");
        int sorts = 1 + r.nextInt(5);
        int again = 5 + r.nextInt(60);
        for (int lines = r.nextInt(45); lines >= 0; lines--) {
            String line = r.nextInt(again) == 0 ? "swap frames 1 step 1 big 4"
                : r.nextInt(5) < sorts ? "data " + r.nextInt(100) + " x 16" : op(r, r.nextInt(4), r.nextInt(30));
            text.append(line).append(lines > 0 ? ";" : "");
        }
        return atMost900(text);
    }

    private static String atMost900(StringBuilder text) {
        if (text.length() > 900) {
            text.setLength(900);
        }
        return text.toString();
    }
}
