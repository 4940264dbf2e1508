/** Puts texts into the text buffer of a hall. */
final class Texts {
    private Texts() {
    }

    static void put(PickHall x, String text) {
        x.truncateText(0);
        for (int k = 0; k < text.length(); k += 4) {
            int four = 0;
            for (int b = 0; b < 4; b++) {
                four = four << 8 | (k + b < text.length() ? text.charAt(k + b) & 255 : ' ');
            }
            x.appendText(four);
        }
        x.truncateText(text.length());
    }

    static int load(PickHall x, String text) {
        put(x, text);
        return x.load();
    }

    static PickHall hall(String text) {
        PickHall x = new PickHall();
        load(x, text);
        Check.same("the test's own setup " + text, 0, x.errorCode());
        return x;
    }
}
