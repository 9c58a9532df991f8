/** Feeds texts to a FallTrials, twenty bytes a call. */
final class Feeder {
    private Feeder() {
    }

    /** Feeds a text with blanks behind it and reads it as a book: what book() answers. */
    static int tell(FallTrials house, String text) {
        feed(house, text);
        return house.book(text.length());
    }

    static int feed(FallTrials house, String text) {
        int fed = 0;
        for (int i = 0; i < text.length(); i += 20) {
            int[] numbers = new int[5];
            for (int k = 0; k < 20; k++) {
                int sign = i + k < text.length() ? text.charAt(i + k) : ' ';
                numbers[k / 4] = numbers[k / 4] << 8 | sign & 255;
            }
            fed = house.feed(numbers[0], numbers[1], numbers[2], numbers[3], numbers[4]);
        }
        return fed;
    }
}
