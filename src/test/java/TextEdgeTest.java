import java.util.Arrays;
import java.util.List;

/** Promises 24 to 26 at their edges: a tape that is empty or full, and every place where a text can go wrong. */
public final class TextEdgeTest {
    private static final int MOST_BYTES = 120;

    public static void main(String[] args) {
        promise24Bytes();
        promise24Full();
        promise25();
        promise26Sizes();
        promise26Beginnings();
        promise26Bytes();
        promise26Squares();
        promise26To();
        promise26Rates();
        promise26Wealth();
        promise26PastInts();
        promise26SeventhHouse();
        promise26Items();
        promise26FaultChangesNothing();
        promise26EveryText();
        Due.finish();
    }

    private static CornerTax town(String text) {
        CornerTax tax = new CornerTax();
        Due.holds("a right text: " + text, Due.told(tax, text) > 0);
        return tax;
    }

    /** One house, and the text told to it: how many items, or a fault at its place. */
    private static void items(String text, int want) {
        Due.is("26 items of '" + text + "'", want, Due.told(town("law 9 on 0"), text));
    }

    private static void fault(String text, int place) {
        Due.is("26 fault of '" + text + "'", -1 - place, Due.told(town("law 9 on 0"), text));
    }

    // ---- the tape

    private static void promise24Bytes() {
        // "tree 7" and "old 5 on 9" cut into n bytes a call, with other bytes above those n.
        for (int n = 1; n <= 4; n++) {
            CornerTax tax = new CornerTax();
            String text = "tree 7  ;  old 5 on 9   ";
            for (int i = 0; i < text.length(); i += n) {
                int bytes = -1;
                for (int k = 0; k < n; k++) bytes = bytes << 8 | text.charAt(i + k);
                Due.is("24 how many it has, n " + n, i + n, tax.feed(bytes, n));
            }
            Due.is("24 they are read as fed, n " + n, 2, tax.town());
            Due.is("24 tree, n " + n, 3, tax.at(7));
            Due.is("24 house, n " + n, 10, tax.at(9));
        }
        CornerTax tax = new CornerTax();
        for (int bytes : new int[] {0, -1, Integer.MAX_VALUE, Integer.MIN_VALUE}) {
            for (int n = 1; n <= 4; n++) Due.is("24 any number", n, fedAnew(tax, bytes, n));
        }
    }

    private static int fedAnew(CornerTax tax, int bytes, int n) {
        tax.wipe();
        return tax.feed(bytes, n);
    }

    private static void promise24Full() {
        for (int n = 1; n <= 4; n++) {
            for (int had = MOST_BYTES - 5; had <= MOST_BYTES; had++) {
                CornerTax tax = new CornerTax();
                Due.feed(tax, " ".repeat(had));
                int want = had + n <= MOST_BYTES ? had + n : Due.FULL;
                Due.is("24 " + n + " bytes behind " + had, want, tax.feed(0x20202020, n));
                Due.is("24 it has", want == Due.FULL ? had : want, tax.count(4));
            }
        }
    }

    private static void promise25() {
        for (int had : new int[] {0, 1, 119, MOST_BYTES}) {
            CornerTax tax = new CornerTax();
            Due.feed(tax, " ".repeat(had));
            Due.is("25 how many it had", had, tax.wipe());
            Due.is("25 it is empty", 0, tax.count(4));
            Due.is("25 it is empty", 0, tax.wipe());
            Due.is("25 an empty tape is no text", -1, tax.town());
            Due.is("25 there is room again", 4, tax.feed(0, 4));
            Due.is("25 no findings", 0, tax.status(-1));
        }
    }

    // ---- the text

    private static void promise26Sizes() {
        fault("", 0);
        for (int n : new int[] {1, 2, 119, MOST_BYTES}) fault(" ".repeat(n), n);
        items("tree 5" + " ".repeat(114), 1);
        items(" ".repeat(114) + "tree 5", 1);
        items(" ".repeat(112) + "tree 5 6", 1);
        fault(" ".repeat(113) + "tree 64", 118);
        fault(" ".repeat(113) + "tree 5;", MOST_BYTES);
        fault(" ".repeat(116) + "tree", MOST_BYTES);
        fault(" ".repeat(119) + "5", 119);
        fault("tree " + "0".repeat(113) + "9x", 119);
        items("tree " + "0".repeat(114) + "9", 1);
        items("tree 1;".repeat(17), -1 - 119);
        items("tree1;".repeat(19) + "tree1", 20);
        Due.is("26 as many items as can be", 21,
            Due.told(new CornerTax(), "old1;".repeat(6) + "tree1;".repeat(14) + "tree1"));
    }

    /** A text that is cut off behind each of its bytes. */
    private static void promise26Beginnings() {
        String text = "law 5 on 1 3 to 9; rich 1 70;shed 2";
        // How many items, or -1 less the place of the fault.
        int[] due = {-1, -1, -1, -4, -5, 1, 1, -7, -9, -10, 1, 1, 1, 1, -14, -16, -17, 1,
            -19, -20, -20, -20, -20, -24, -25, -26, -27, 2, 2, -30, -30, -30, -30, -34, -35, 3};
        Due.is("26 all beginnings", text.length() + 1, due.length);
        for (int n = 0; n <= text.length(); n++) {
            Due.is("26 '" + text.substring(0, n) + "'", due[n], Due.told(town("old 3"), text.substring(0, n)));
        }
    }

    /** Every byte: at the beginning, behind a word, behind a number, within a word and within a number. */
    private static void promise26Bytes() {
        for (int b = 0; b <= 255; b++) {
            String sign = String.valueOf((char) b);
            boolean letter = b >= 'a' && b <= 'z';
            boolean digit = b >= '0' && b <= '9';
            fault(sign, b == ' ' ? 1 : 0);
            if (digit) items("tree " + sign, 1);
            else fault("tree " + sign, b == ' ' ? 6 : 5);
            if (b == ' ' || digit && b > '5') items("tree 5 " + sign, 1);
            else fault("tree 5 " + sign, b == ';' ? 8 : 7);
            if (b == ' ' || digit && b < '6') items("tree" + sign + "7", 1);
            else fault("tree" + sign + "7", letter ? 0 : 4);
            if (b == ' ' || digit) items("tree 0" + sign + "3", digit && b > '6' ? -1 - 5 : 1);
            else fault("tree 1" + sign + "3", b == ';' ? 7 : 6);
            // The byte above 127 is one byte, not a number with a sign.
            if (b > 127) fault("tree 1;" + sign, 7);
        }
    }

    private static void promise26Squares() {
        String[] words = {"street", "shed", "tree", "ground"};
        int[] becomes = {1, 2, 3, 0};
        for (int k = 0; k < 4; k++) {
            String word = words[k];
            CornerTax tax = town("law 1 on 0 to 63");
            Due.is("26 " + word, 1, Due.told(tax, word + " 0 63"));
            Due.is("26 " + word + " least", becomes[k], tax.at(0));
            Due.is("26 " + word + " greatest", becomes[k], tax.at(63));
            Due.is("26 " + word + " none between", 62, tax.of(0, 3));
            Due.is("26 " + word + " all", 1, Due.told(tax, word + " 0 to 63"));
            Due.is("26 " + word + " all", 0, tax.of(0, 3));
            fault(word, word.length());
            fault(word + " 64", word.length() + 1);
            fault(word + " 9999", word.length() + 1);
            fault(word + " 10000", word.length() + 1);
            fault(word + " to", word.length() + 1);
            fault(word + " on 5", word.length() + 1);
            fault(word + ";", word.length());
            fault(word + word + " 5", 0);
            fault(word.substring(1) + " 5", 0);
            fault(word + "s 5", 0);
            fault(word + " 5 " + word, word.length() + 3);
        }
        items("tree 0 1", 1);
        fault("tree 0 0", 7);
        fault("tree 1 0", 7);
        fault("tree 63 63", 8);
        fault("tree 62 63 64", 11);
        fault("tree 1 3 2", 9);
        StringBuilder many = new StringBuilder("tree");
        for (int s = 0; s < 41; s++) many.append(' ').append(s);
        CornerTax tax = new CornerTax();
        Due.is("26 as many numbers as the tape takes", 1, Due.told(tax, many.toString()));
        Due.is("26 as many numbers as the tape takes", 41, tax.count(3));
    }

    private static void promise26To() {
        for (int last : new int[] {0, 1, 61, 62}) {
            for (int to : new int[] {last + 1, 63}) {
                CornerTax tax = town("tree " + last + " to " + to);
                Due.is("26 up to this one, too", to - last + 1, tax.count(3));
                Due.is("26 the first", 3, tax.at(last));
                Due.is("26 the last", 3, tax.at(to));
            }
        }
        CornerTax tax = town("tree 3 9 to 11");
        Due.is("26 behind the last of the numbers", 4, tax.count(3));
        Due.is("26 behind the last of the numbers", 0, tax.at(4));
        fault("tree 5 to 5", 10);
        fault("tree 5 to 4", 10);
        fault("tree 5 to 0", 10);
        fault("tree 3 9 to 5", 12);
        fault("tree 5 to 64", 10);
        fault("tree 5 to 9999", 10);
        fault("tree 5 to 10000", 10);
        fault("tree 63 to 64", 11);
        fault("tree 63 to", 10);
        fault("tree 5 to", 9);
        fault("tree 5 to ;", 10);
        fault("tree 5 to to 7", 10);
        fault("tree 5 to on", 10);
        fault("tree 5 to 7 to 9", 12);
        fault("tree 5 to 7 8", 12);
        fault("tree 5 too 7", 7);
        fault("tree 5 t 7", 7);
        fault("to 7", 0);
        items("law 1 on 62 to 63", 1);
        fault("law 1 on 62 to 64", 15);
        fault("law 1 on 62 to 62", 15);
        fault("law 1 to 5", 6);
    }

    private static void promise26Rates() {
        String[] kinds = {"law", "outward", "shared", "dear", "old", "free"};
        for (int k = 0; k < 6; k++) {
            String kind = kinds[k];
            int behind = kind.length() + 1;
            for (int rate : new int[] {1, 99}) {
                CornerTax tax = town(kind + " " + rate);
                Due.is("26 kind", k, tax.of(0, 0));
                Due.is("26 rate", rate, tax.of(0, 1));
                Due.is("26 of no squares", 0, tax.of(0, 3));
                Due.is("26 of no wealth", 0, tax.of(0, 2));
            }
            fault(kind, kind.length());
            fault(kind + " 0", behind);
            fault(kind + " 100", behind);
            fault(kind + " 10000", behind);
            fault(kind + " on", behind);
            fault(kind + ";", behind - 1);
            fault(kind + " 5 6", behind + 2);
            fault(kind + " 5 on", behind + 4);
            fault(kind + " 5 on on", behind + 5);
            fault(kind + " 5 on;", behind + 4);
            fault(kind + " 5 on 64", behind + 5);
            fault(kind + " 5 on 7 7", behind + 7);
            fault(kind + " 5 one 7", behind + 2);
            fault(kind + " 5 " + kind + " 5", behind + 2);
            fault(kind.substring(1) + " 5", 0);
        }
        fault("on 5", 0);
    }

    private static void promise26Wealth() {
        for (int wealth : new int[] {0, 1, 9998, 9999}) {
            CornerTax tax = town("law 1;law 1;rich 0 50;rich 1 50");
            Due.is("26 rich", 1, Due.told(tax, "rich 1 " + wealth));
            Due.is("26 its wealth", wealth, tax.of(1, 2));
            Due.is("26 another's stays", 50, tax.of(0, 2));
        }
        fault("rich", 4);
        fault("rich;", 4);
        fault("rich 0", 6);
        fault("rich 0;", 6);
        fault("rich 1 5", 5);
        fault("rich 9999 5", 5);
        fault("rich 10000 5", 5);
        fault("rich 0 10000", 7);
        fault("rich 0 5 5", 9);
        fault("rich 0 to 5", 7);
        fault("rich on 5", 5);
        fault("riches 0 5", 0);
        Due.is("26 no house to be rich", -6, Due.told(new CornerTax(), "rich 0 5"));
        CornerTax six = town("law 1;law 1;law 1;law 1;law 1;law 1");
        Due.is("26 the last house", 1, Due.told(six, "rich 5 9999"));
        Due.is("26 the last house", 9999, six.of(5, 2));
        Due.is("26 none behind it", -6, Due.told(six, "rich 6 9999"));
        CornerTax back = town("law 1");
        back.image();
        back.house(0, 1);
        back.undo();
        Due.is("26 one that was taken back", -6, Due.told(back, "rich 1 5"));
    }

    /** Numbers that would be right ones if they wrapped about. */
    private static void promise26PastInts() {
        String[] wrapping = {"256", "65541", "4294967301", "4294967296", "18446744073709551621",
            "340282366920938463463374607431768211461", "10005", "99999", "100000000000000000000000000000000000005"};
        for (String number : wrapping) {
            fault("tree " + number, 5);
            fault("tree 1 to " + number, 10);
            fault("law " + number, 4);
            fault("law 5 on " + number, 9);
            fault("rich " + number + " 5", 5);
            if (number.length() > 4) fault("rich 0 " + number, 7);
        }
        items("tree 0000000000000000000000000000000000005", 1);
        items("rich 0000000000 000000000000000009999", 1);
        fault("rich 0 000000000000000010000", 7);
    }

    private static void promise26SeventhHouse() {
        for (String kind : new String[] {"law", "outward", "shared", "dear", "old", "free"}) {
            CornerTax tax = town("law 1;law 1;law 1;law 1;law 1;law 1");
            Due.is("26 a 7th house: its own", -1, Due.told(tax, kind + " 5"));
            Due.is("26 a 7th house: whatever follows", -1, Due.told(tax, kind + " 100 #"));
            Due.is("26 a 7th house: at the end", -3, Due.told(tax, "  " + kind));
            Due.is("26 a 7th house: in a later item", -8, Due.told(tax, "tree 5;" + kind + " 5"));
            Due.is("26 nothing changes", 0, tax.at(5));
            Due.is("26 other items may be", 2, Due.told(tax, "tree 5;rich 5 1"));
            Due.is("26 still six", 6, tax.count(0));
        }
        CornerTax five = town("law 1;law 1;law 1;law 1;law 1");
        Due.is("26 a 6th and a 7th", -7, Due.told(five, "law 1;law 1"));
        Due.is("26 neither came", 5, five.count(0));
        Due.is("26 the 6th alone", 1, Due.told(five, "law 1"));
    }

    private static void promise26Items() {
        CornerTax tax = town("law 7 on 5;street 5;law 8 on 6;tree 7;law 9 on 7;rich 2 4;rich 2 5;ground 6");
        Due.is("26 one by one: a street on it", 1, tax.at(5));
        Due.is("26 one by one: ground again", 0, tax.at(6));
        Due.is("26 one by one: a house on it", 12, tax.at(7));
        Due.is("26 one by one: the later wealth", 5, tax.of(2, 2));
        Due.is("26 houses by their order", 7, tax.of(0, 1));
        Due.is("26 houses by their order", 9, tax.of(2, 1));
        Due.is("26 a house of its own text", 2, Due.told(tax, "old 1;rich 3 9"));
        Due.is("26 not ahead of it", -6, Due.told(tax, "rich 4 9;old 1"));
        fault("tree 5 6;rich 0 7;law 5 on 8;;", 29);
        fault("tree 5;;", 7);
        fault(";tree 5", 0);
        fault("tree 5 ; ", 9);
        fault("tree 5 tree 6", 7);
        fault("tree 5 rich 0 5", 7);
        fault("law 5 rich 0 5", 6);
        fault("rich 0 5 tree 6", 9);
    }

    private static CornerTax lived() {
        CornerTax tax = town("street 56 to 63;law 9 on 0 1 9;dear 5 on 20;rich 0 60;rich 1 5;tree 40");
        tax.round(1, 22);
        tax.years(1);
        tax.image();
        tax.sheet(0, 16, 3);
        tax.write(0, 1, 400);
        tax.at(64);
        tax.square(33, 2);
        return tax;
    }

    /** "nothing changes but that THE TAPE is empty; no finding": as if it had been wiped. */
    private static void promise26FaultChangesNothing() {
        String[] faulty = {"", " ", "tree 0 to 63;x", "street 0 to 40;law 5 on 41 to 63;rich 2 9999;",
            "rich 0 0;rich 1 9999;rich 2 1", "ground 0 to 63;old 9;old 9;old 9;old 9;old 9",
            "ground 56 to 63;tree 2 to 64", "shed 57;free 99 on 0 1 9 9", "law 1;law 1;law 1 on 63;rich 4 7;rich 0"};
        for (String text : faulty) {
            CornerTax tax = lived();
            long[] before = Twins.statuses(tax);
            Due.holds("26 a faulty text '" + text + "'", Due.told(tax, text) < 0);
            Due.holds("26 no finding", Arrays.equals(before, Twins.statuses(tax)));
            Due.is("26 the tape is empty", 0, tax.count(4));
            Twins.alike("26 fault of '" + text + "' changes nothing", TextEdgeTest::lived,
                t -> Due.told(t, text), t -> 0);
        }
    }

    /** All texts of up to four tokens out of a few, and those of two items, beside the model. */
    private static void promise26EveryText() {
        List<String> few = List.of("tree", "law", "rich", "on", "to", ";", "0", "7", "63", "64", "100", "9999", "10000", "x", "#");
        for (int houses : new int[] {0, 1, 6}) everyText(few, "", 0, houses);
        List<String> fewer = List.of("shed 1", "law 5", "rich 0", "on", "to", ";", "2");
        everyLongText(fewer, "", 0);
    }

    private static void everyText(List<String> few, String text, int tokens, int houses) {
        besideModel(text, houses);
        if (tokens == 4) return;
        for (String token : few) everyText(few, text.isEmpty() ? token : text + " " + token, tokens + 1, houses);
    }

    private static void everyLongText(List<String> few, String text, int tokens) {
        besideModel(text, 1);
        if (tokens == 6) return;
        for (String token : few) everyLongText(few, text.isEmpty() ? token : text + " " + token, tokens + 1);
    }

    private static void besideModel(String text, int houses) {
        CornerTax tax = new CornerTax();
        Model model = new Model();
        for (int h = 0; h < houses; h++) {
            tax.house(h, 9);
            model.house(h, 9);
        }
        for (int i = 0; i < text.length(); i++) model.feed(text.charAt(i), 1);
        int want = model.town();
        Due.is("26 '" + text + "' with " + houses + " houses", want, Due.told(tax, text));
        if (want > 0) {
            for (int s : new int[] {0, 1, 2, 7, 8, 62, 63}) Due.is("26 '" + text + "' square " + s, model.at(s), tax.at(s));
            Due.is("26 '" + text + "' houses", model.count(0), tax.count(0));
        }
    }
}
