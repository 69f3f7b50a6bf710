/** Objects for tests to begin with. */
final class Songs {
    private Songs() {
    }

    static void write(SungSlides x, String text) {
        for (int i = 0; i < text.length(); i++) {
            x.type(text.charAt(i));
        }
    }

    static SungSlides typed(String text) {
        SungSlides x = new SungSlides();
        write(x, text);
        return x;
    }

    static SungSlides made(String text) {
        SungSlides x = typed(text);
        x.read();
        return x;
    }

    /** As many syllables of one tick, of the pitch 20, in one phrase, begun at 0, 1, 2 and so on. */
    static SungSlides ofTicks(int count) {
        SungSlides x = new SungSlides();
        for (int i = 0; i < count; i++) {
            x.add(0, 20, 20, 1, false);
        }
        return x;
    }

    /** Nine syllables of 32 ticks behind rests of 32, of the pitch 20; the last tick is 575. */
    static SungSlides upTo575() {
        SungSlides x = new SungSlides();
        for (int i = 0; i < 9; i++) {
            x.add(32, 20, 20, 32, false);
        }
        return x;
    }

    /** A syllable that has the tick 599 alone, as the tenth one. */
    static SungSlides upTo599() {
        SungSlides x = upTo575();
        x.add(23, 20, 20, 1, false);
        return x;
    }
}
