import java.nio.charset.StandardCharsets;

/** Puts bytes on the TAPE of an object, whatever their number. */
final class Feeder {
    private Feeder() {
    }

    static void feed(GraceTree tree, byte[] bytes) {
        int had = tree.count(9);
        for (int i = 0; i < bytes.length; i += 20) {
            int[] five = new int[5];
            for (int j = 0; j < 20; j++) {
                int next = i + j < bytes.length ? bytes[i + j] & 255 : 0;
                five[j / 4] = five[j / 4] << 8 | next;
            }
            tree.feed(five[0], five[1], five[2], five[3], five[4]);
        }
        tree.end(had + bytes.length);
    }

    static void feed(GraceTree tree, String text) {
        feed(tree, text.getBytes(StandardCharsets.ISO_8859_1));
    }

    static int law(GraceTree tree, String text) {
        feed(tree, text);
        return tree.law();
    }

    static int orders(GraceTree tree, String text) {
        feed(tree, text);
        return tree.orders();
    }

    static int row(GraceTree tree, int... bytes) {
        byte[] row = new byte[bytes.length];
        for (int i = 0; i < bytes.length; i++) {
            row[i] = (byte) bytes[i];
        }
        feed(tree, row);
        return tree.row();
    }
}
