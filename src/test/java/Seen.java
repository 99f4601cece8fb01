/** What can be seen of an object, written as a text, so that two of them can be compared. */
final class Seen {
    private final RainShares x;
    private final StringBuilder text = new StringBuilder();

    private Seen(RainShares x) {
        this.x = x;
    }

    /** What an IMAGE keeps, but for the bytes of THE TAPE and the numbers that wait; looking changes nothing. */
    static String valley(RainShares x) {
        Seen seen = new Seen(x);
        seen.valley();
        return seen.text.toString();
    }

    /** All but what told() tells; it spends the object, as bytes and numbers are seen only by their use. */
    static String all(RainShares x) {
        Seen seen = new Seen(x);
        seen.valley();
        seen.trace();
        seen.tapeAndWaiting();
        seen.sheets();
        seen.add("restore", x.restore());
        seen.valley();
        seen.tapeAndWaiting();
        seen.add("image", x.image());
        return seen.text.toString();
    }

    private void add(String what, int answer) {
        text.append(what).append(' ').append(answer).append('\n');
    }

    private void valley() {
        for (int what = 0; what <= 10; what++) {
            if (what != 9) {
                add("count " + what, x.count(what));
            }
        }
        int roofs = x.count(0);
        for (int r = 0; r < roofs; r++) {
            for (int what = 0; what <= 5; what++) {
                add("roof " + r + " " + what, x.ofRoof(r, what));
            }
            for (int other = 0; other < roofs; other++) {
                if (other != r) {
                    add("owed " + r + " " + other, x.owed(r, other));
                }
            }
        }
        for (int c = 0; c < x.count(1); c++) {
            for (int what = 0; what <= 7; what++) {
                add("cloud " + c + " " + what, x.ofCloud(c, what));
            }
        }
        laws();
    }

    private void laws() {
        for (int use = 0; use <= 1; use++) {
            add("law " + use, x.law(use, 3, 5, 7));
            add("law " + use, x.law(use, 50, 1, 0));
        }
    }

    private void trace() {
        int many = x.count(9);
        add("trace", many);
        for (int i = 0; i < many; i++) {
            add("trace " + i, x.trace(i));
        }
    }

    private void tapeAndWaiting() {
        add("check", x.check());
        add("text", x.text(0));
        laws();
    }

    /** Numbers of 0 to 99 alone; each is seen as SHARES of ROOF 0. */
    private void sheets() {
        for (int sheet = 0; sheet <= 3; sheet++) {
            int size = 0;
            while (size <= 40 && x.move(sheet, 0, sheet, 0, size + 1) == size + 1) {
                size++;
            }
            add("sheet " + sheet, size);
            for (int i = 0; i < size; i++) {
                x.move(sheet, i, sheet, 0, 1);
                add("shares " + sheet, x.shares(sheet));
                add("number " + i, x.ofRoof(0, 0));
            }
            add("put", x.put(sheet, 0, 65536 + 256 + 5));
            add("bits", x.shares(sheet));
            add("put", x.put(sheet, 0, 65536 + 5));
            add("bits", x.shares(sheet));
        }
    }
}
