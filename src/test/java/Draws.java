/** The draws as part 2 of the document tells them, to work out by hand what is due. */
final class Draws {
    int z;

    Draws(int z) {
        this.z = z;
    }

    int next() {
        z = z * 1103515245 + 12345;
        return z >>> 8;
    }

    /** z after so many draws. */
    static int after(int z, int many) {
        Draws draws = new Draws(z);
        for (int i = 0; i < many; i++) {
            draws.next();
        }
        return draws.z;
    }
}
