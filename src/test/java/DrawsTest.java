/** Promises 28 to 30: seed, keep, goBack. */
public final class DrawsTest {
    private static final Due due = new Due();

    public static void main(String[] args) {
        seed();
        keepAndGoBack();
        imagesKeepTheSeed();
        imagesWithoutTable();
        due.end("DrawsTest");
    }

    private static void seed() {
        EggThrones x = new EggThrones();
        due.is("seed at first", x.seed(Integer.MAX_VALUE), 0);
        due.is("seed(-1)", x.seed(-1), Due.OUTSIDE);
        due.is("seed of the least", x.seed(Integer.MIN_VALUE), Due.OUTSIDE);
        due.is("seed as it was", x.seed(0), Integer.MAX_VALUE);
        due.is("seed(0) kept", x.seed(5), 0);
        Due.tell(x, "p1 0 5;e0 1;");
        due.is("the seed stays", x.seed(5), 5);
        x.drift(1);
        long once = (5L * 1103515245L + 12345L) % 2147483648L;
        long twice = (once * 1103515245L + 12345L) % 2147483648L;
        due.is("two draws", x.seed(5), twice);
    }

    private static void keepAndGoBack() {
        EggThrones x = Due.toldOf(Due.USUAL);
        for (int i : new int[] {-1, 2, Integer.MIN_VALUE, Integer.MAX_VALUE}) {
            due.is("keep(" + i + ")", x.keep(i), Due.UNKNOWN);
            due.is("goBack(" + i + ")", x.goBack(i), Due.UNKNOWN);
        }
        x.minute(1);
        due.is("goBack(0) of none", x.goBack(0), Due.NOT);
        due.is("goBack(1) of none", x.goBack(1), Due.NOT);
        due.is("refused, it can be undone", x.told(17), 1);
        Due.boil(x, 0, 3);
        x.crown(0);
        x.minute(2);
        String first = Due.morningOf(x);
        due.is("keep(0)", x.keep(0), 1);
        due.is("nothing can be undone", x.undo(), Due.NOT);
        x.minute(1);
        x.put(1);
        x.minute(9);
        x.cutToast(50);
        String second = Due.morningOf(x);
        due.is("keep(1)", x.keep(1), 1);
        x.drift(20);
        due.is("goBack(0)", x.goBack(0), 1);
        due.same("image 0", Due.morningOf(x), first);
        due.is("nothing can be undone then", x.told(17), 0);
        x.minute(1);
        due.is("goBack(1)", x.goBack(1), 1);
        due.same("image 1", Due.morningOf(x), second);
        due.is("goBack(0) again", x.goBack(0), 1);
        due.same("image 0 again", Due.morningOf(x), first);
        x.minute(3);
        String third = Due.morningOf(x);
        due.is("keep(0) anew", x.keep(0), 1);
        x.minute(3);
        due.is("goBack(0) anew", x.goBack(0), 1);
        due.same("image 0 anew", Due.morningOf(x), third);
    }

    private static void imagesKeepTheSeed() {
        EggThrones x = Due.toldOf(Due.USUAL);
        x.seed(123);
        x.wish(0, 3);
        x.see(1, 1);
        x.write(0, 0);
        x.keep(1);
        x.drift(30);
        String drifted = Due.morningOf(x);
        x.wish(0, 4);
        x.see(1, 1);
        x.write(1, 0);
        x.goBack(1);
        due.is("wishes are of no image", x.egg(0, 6), 4);
        due.is("what is seen is of no image", x.told(15), 2);
        due.is("the book is of no image", x.told(16), 2);
        x.drift(30);
        due.same("the same draws", Due.morningOf(x), drifted);
        x.goBack(1);
        due.is("the seed of the image", x.seed(0), 123);
    }

    private static void imagesWithoutTable() {
        EggThrones x = new EggThrones();
        x.seed(9);
        due.is("keep(0) without a table", x.keep(0), 1);
        x.seed(10);
        due.is("goBack(0) without a table", x.goBack(0), 1);
        due.is("its seed", x.seed(0), 9);
        Due.tell(x, Due.USUAL);
        due.is("images are gone with a table", x.goBack(0), Due.NOT);
    }
}
