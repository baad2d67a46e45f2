/** Feeds signs to THE TAPE by twelves and tells them. */
final class Tapes {
    static int four(String signs, int at) {
        int four = 0;
        for (int i = at; i < at + 4; i++) {
            four = four << 8 | (i < signs.length() ? signs.charAt(i) : ' ');
        }
        return four;
    }

    /** THE TAPE, empty until now, is just these signs then. */
    static int feed(TattooRoads x, String signs) {
        for (int at = 0; at < signs.length(); at += 12) {
            x.feed(four(signs, at), four(signs, at + 4), four(signs, at + 8));
        }
        return x.trim(signs.length());
    }

    static int tell(TattooRoads x, String signs) {
        feed(x, signs);
        return x.text();
    }
}
