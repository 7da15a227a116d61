import java.util.ArrayList;
import java.util.List;

/** What the tests of the document's sentences have in common. */
abstract class Sentences {
    static final int BADARG = -1;
    static final int NOROOM = -2;
    static final int NOTMAPPED = -3;
    static final int DOWN = -4;
    static final int LEAST = Integer.MIN_VALUE;
    static final int MOST = Integer.MAX_VALUE;

    static final Check CHECK = new Check();

    static Bench bench(int words, int chunks, int volumes, int blocks) {
        return new Bench(CHECK, new SharedVolumes(words, chunks, volumes, blocks), words, chunks, volumes, blocks);
    }

    /** Numbers that are not in 0 .. bound - 1: beside it, far from it, and such as wrap around into it. */
    static int[] outside(int bound) {
        return new int[] {-1, -2, -bound, bound, bound + 1, 256, 65536, 1 << 29, 1 << 30, 3 << 30, LEAST, LEAST + 1, MOST};
    }

    /** Pairs that name no block, also such as would lie in the row of all blocks. */
    static List<int[]> noBlocks(int volumes, int blocks) {
        List<int[]> pairs = new ArrayList<>();
        for (int vol : outside(volumes)) {
            pairs.add(new int[] {vol, 0});
            pairs.add(new int[] {vol, blocks - 1});
        }
        for (int lb : outside(blocks)) {
            pairs.add(new int[] {0, lb});
            pairs.add(new int[] {volumes - 1, lb});
        }
        pairs.add(new int[] {-1, blocks});
        pairs.add(new int[] {volumes, -1});
        pairs.add(new int[] {MOST, MOST});
        pairs.add(new int[] {LEAST, LEAST});
        return pairs;
    }

    /** A call that makes a change, on an object in which it can. */
    enum Change {
        WRITE_NEW, WRITE_SHARED, TRIM, CLONE, CLONE_SAME, DROP;

        /** Two words, two volumes; volume 0 has contents in its first and last block, volume 1 in its last. */
        Bench prepared(int blocks) {
            Bench b = bench(2, 4, 2, blocks);
            b.put(0, 0, 1, 2);
            b.put(0, blocks - 1, 3, 4);
            b.put(1, blocks - 1, 5, 6);
            if (this == WRITE_NEW) {
                b.stage(7, 8);
            } else if (this == WRITE_SHARED) {
                b.stage(3, 4);
            }
            return b;
        }

        void due(Bench b, int code) {
            Bench.Due due = b.due(code);
            switch (this) {
                case WRITE_NEW, WRITE_SHARED -> due.writeBlock(1, b.blocks - 1);
                case TRIM -> due.trim(1, b.blocks - 1);
                case CLONE -> due.cloneVol(0, 1);
                case CLONE_SAME -> due.cloneVol(1, 1);
                default -> due.dropVol(1);
            }
        }

        int wordWrites() {
            return this == WRITE_NEW ? 2 : 0;
        }

        int namedBlocks(int blocks) {
            return this == CLONE || this == CLONE_SAME || this == DROP ? blocks : 1;
        }

        int allWrites(int blocks) {
            return wordWrites() + 4 + namedBlocks(blocks) + 1;
        }

        /** What volume 1's blocks are mapped to when the change has been made. */
        void dueDone(Bench b) {
            int last = b.blocks - 1;
            for (int lb = 0; lb < last; lb++) {
                b.due(this == CLONE && lb == 0 ? 0 : NOTMAPPED).slotOf(1, lb);
            }
            switch (this) {
                case WRITE_NEW -> b.due(last == 0 ? 2 : 3).slotOf(1, last);
                case WRITE_SHARED, CLONE -> b.due(1).slotOf(1, last);
                case CLONE_SAME -> b.due(oldSlot(last)).slotOf(1, last);
                default -> b.due(NOTMAPPED).slotOf(1, last);
            }
        }

        /** What volume 1's blocks are mapped to when the change has not been made. */
        void dueNotDone(Bench b) {
            int last = b.blocks - 1;
            for (int lb = 0; lb < last; lb++) {
                b.due(NOTMAPPED).slotOf(1, lb);
            }
            b.due(oldSlot(last)).slotOf(1, last);
        }

        // With one block a volume, the second put has given up slot 0, and the third takes it.
        private int oldSlot(int last) {
            return last == 0 ? 0 : 2;
        }
    }
}
