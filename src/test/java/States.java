/** Objects in a state of their own, for tests of what is refused there. */
final class States {
    private States() {
    }

    /** A state in which there is something of everything: a king, images, deeds, clues, a book, a fault, a text. */
    static EggThrones busy() {
        EggThrones x = active();
        Due.tell(x, "p1 0 1;x");
        Due.feedAll(x, "p1");
        return x;
    }

    /** As busy, but without a fault and with no letters fed. */
    static EggThrones active() {
        EggThrones x = Due.toldOf(Due.USUAL);
        x.seed(77);
        x.wish(0, 5);
        x.put(3);
        x.takeOut(3);
        x.put(0);
        x.put(2);
        x.minute(3);
        x.keep(0);
        x.takeOut(0);
        x.seed(78);
        x.keep(1);
        x.seed(79);
        x.crown(0);
        x.put(1);
        x.minute(1);
        x.cutToast(7);
        x.see(5, 2);
        x.see(2, 5);
        x.write(1, 1);
        x.write(3, 0);
        return x;
    }

    /** 240 letters are fed, which tell a table. */
    static EggThrones withFullText() {
        EggThrones x = small();
        Due.feedAll(x, "p1 9 9;e0 1;m0 9;" + " ".repeat(223));
        return x;
    }

    /** One egg in the pan, one eater, an image, one deed. */
    static EggThrones small() {
        EggThrones x = Due.toldOf("p1 9 9;e0 1;m0 9;");
        x.seed(5);
        x.put(0);
        x.keep(1);
        x.minute(2);
        return x;
    }

    /** MINUTES are above 9000. */
    static EggThrones late() {
        EggThrones x = small();
        for (int i = 0; i < 150; i++) {
            x.minute(60);
        }
        x.keep(0);
        x.cutToast(1);
        return x;
    }

    /** Six clues, by which two ages fit. */
    static EggThrones allSeen() {
        EggThrones x = busy();
        for (int i = 2; i < 6; i++) {
            x.see(9, 1);
        }
        return x;
    }

    /** A book of fifteen entries. */
    static EggThrones allWritten() {
        EggThrones x = busy();
        for (int i = 2; i < 15; i++) {
            x.write(0, 3);
        }
        return x;
    }

    /** No table, but a seed, a clue, an image and a letter. */
    static EggThrones untold() {
        EggThrones x = new EggThrones();
        x.seed(3);
        x.see(2, 2);
        x.keep(1);
        x.feed('p');
        return x;
    }
}
