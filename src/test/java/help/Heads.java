/** Heads that several tests begin with. */
final class Heads {
    private Heads() {
    }

    /** A head of these cells alone, in line 5 from column 3 on: the others are off the scalp. */
    static HeadRows strip(int... hairs) {
        HeadRows head = new HeadRows();
        for (int cell = 0; cell < 192; cell++) {
            int n = cell - (16 * 5 + 3);
            head.cell(cell % 16, cell / 16, n >= 0 && n < hairs.length ? hairs[n] : HeadRows.NONE);
        }
        return head;
    }

    /** A head without a hair: each row takes 2 minutes for each cell. */
    static HeadRows bald() {
        HeadRows head = new HeadRows();
        for (int cell = 0; cell < 192; cell++) {
            head.cell(cell % 16, cell / 16, 0);
        }
        return head;
    }

    /** A row of so many cells, from cell 0 on, to the right and to the left by turns. */
    static String snake(int cells) {
        StringBuilder row = new StringBuilder("row 0 0");
        int left = cells - 1;
        for (int line = 0; left > 0; line++) {
            int far = Math.min(left, 15);
            row.append(line % 2 == 0 ? " right " : " left ").append(far);
            left -= far;
            if (left > 0) {
                row.append(" down 1");
                left--;
            }
        }
        return row.append(" ;").toString();
    }
}
