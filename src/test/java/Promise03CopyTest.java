public final class Promise03CopyTest {
    public static void main(String[] args) {
        Due due = new Due("promise 3");
        ordinary(due);
        barcodes(due);
        order(due);
        eighty(due);
        due.end();
    }

    private static void ordinary(Due due) {
        ItemStates x = new ItemStates();
        due.is("first", x.copy(5, 79927398713L, 10, 9), 1);
        due.is("its state", x.state(1, 0), 3);
        due.is("its home", x.home(1), 9);
        due.is("its place", x.place(1), 9);
        due.is("counted", x.count(3, 9), 1);
        due.is("owed", x.owed(1), 0);
        due.is("floats", x.floats(1, false), false);
        due.is("no acts", x.history(1, 0, 0), -1);
        due.is("type 6", x.copy(6, 18, 1, 0), -1);
        due.is("type -1", x.copy(-1, 18, 1, 0), -1);
        due.is("home 10", x.copy(0, 18, 1, 10), -1);
        due.is("home -1", x.copy(0, 18, 1, -1), -1);
        due.is("types at their greatest", x.copy(Integer.MAX_VALUE, 18, 1, Integer.MIN_VALUE), -1);
        due.is("a refused one takes no number", x.copy(0, 18, 1, 0), 2);
    }

    private static void barcodes(Due due) {
        ItemStates x = new ItemStates();
        for (int sign = 0; sign <= 9; sign++) {
            due.is("sign " + sign, x.copy(0, 10 + sign, 1, 0), sign == 8 ? 1 : -1);
        }
        due.is("same number and digits", x.copy(1, 18, 1, 1), -1);
        due.is("same number, other digits", x.copy(1, 18, 2, 1), 2);
        due.is("nothing but zeros", x.copy(0, 0, 1, 0), 3);
        due.is("twelve digits", x.copy(0, 9999999999992L, 12, 0), 4);
        due.is("too many digits", x.copy(0, 10000000000009L, 12, 0), -1);
        due.is("digits 0", x.copy(0, 0, 0, 0), -1);
        due.is("digits 13", x.copy(0, 0, 13, 0), -1);
        for (long barcode = -1; barcode >= -40; barcode--) {
            due.is("barcode " + barcode, x.copy(0, barcode, 1, 0), -1);
            due.is("barcode " + barcode + " of no digits", x.copy(0, barcode, 0, 0), -1);
        }
        due.is("the least long", x.copy(0, Long.MIN_VALUE, 12, 0), -1);
        due.is("the greatest long", x.copy(0, Long.MAX_VALUE, 12, 0), -1);
    }

    private static void order(Due due) {
        ItemStates x = new ItemStates();
        x.copy(0, 18, 1, 0);
        x.right(3, 2, false);
        due.is("no right", x.copy(2, 26, 1, 3), -3);
        due.is("no right and a wrong sign", x.copy(2, 27, 1, 3), -1);
        due.is("no right and a barcode that is taken", x.copy(2, 18, 1, 3), -1);
        due.is("another type there", x.copy(1, 26, 1, 3), 2);
        due.is("the type elsewhere", x.copy(2, 34, 1, 2), 3);
        x.right(3, 2, true);
        due.is("the right again", x.copy(2, 42, 1, 3), 4);
        House.bring(x, 7, 1);
        due.is("a withdrawn copy keeps its barcode", x.copy(0, 18, 1, 0), -1);
    }

    private static void eighty(Due due) {
        ItemStates x = new ItemStates();
        for (int i = 1; i <= 80; i++) {
            due.is("copy " + i, House.add(x, i % 6, i, i % 10), i);
        }
        due.is("copy 81", House.add(x, 0, 81, 0), -1);
        x.right(0, 0, false);
        due.is("copy 81 without a right", House.add(x, 0, 81, 0), -1);
        due.is("all counted", x.count(3, -1), 80);
        due.is("home of the last", x.home(80), 0);
        due.is("home of none", x.home(81), -1);
    }
}
