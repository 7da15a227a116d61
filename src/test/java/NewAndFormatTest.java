/** The sentences of promises 1 (a new object) and 2 (format). */
public final class NewAndFormatTest extends Sentences {
    private static final int[] BELOW_ONE = {0, -1, -4, LEAST, LEAST + 1, 3 << 30};
    private static final int[] ABOVE = {1, 2, 256, 65536, 1 << 30};

    public static void main(String[] args) {
        CHECK.sentence("1: 'W is blockWords, C is chunks, V is volumes, B is blocks'", NewAndFormatTest::sizesAreTaken);
        CHECK.sentence("1: 'each 1 when it is less than that', W", NewAndFormatTest::wordsBelowOne);
        CHECK.sentence("1: 'each 1 when it is less than that', C", NewAndFormatTest::chunksBelowOne);
        CHECK.sentence("1: 'each 1 when it is less than that', V", NewAndFormatTest::volumesBelowOne);
        CHECK.sentence("1: 'each 1 when it is less than that', B", NewAndFormatTest::blocksBelowOne);
        CHECK.sentence("1: 'at most 4, 12, 4 and 6', W", NewAndFormatTest::wordsAtMostFour);
        CHECK.sentence("1: 'at most 4, 12, 4 and 6', C", NewAndFormatTest::chunksAtMostTwelve);
        CHECK.sentence("1: 'at most 4, 12, 4 and 6', V", NewAndFormatTest::volumesAtMostFour);
        CHECK.sentence("1: 'at most 4, 12, 4 and 6', B", NewAndFormatTest::blocksAtMostSix);
        CHECK.sentence("1: 'All is as after format'", NewAndFormatTest::newIsAsFormatted);
        CHECK.sentence("1: 'no losses have been armed'", NewAndFormatTest::newHasNoLosses);
        CHECK.sentence("2: 'All blocks are unmapped'", NewAndFormatTest::formatUnmapsAll);
        CHECK.sentence("2: 'all words of slots .. are 0'", NewAndFormatTest::formatClearsSlots);
        CHECK.sentence("2: 'all words .. of the staged block are 0'", NewAndFormatTest::formatClearsStaged);
        CHECK.sentence("2: 'the power is not down'", NewAndFormatTest::formatBringsPower);
        CHECK.sentence("2: 'nothing is armed'", NewAndFormatTest::formatDisarms);
        CHECK.sentence("2: '(this makes no writes)'", NewAndFormatTest::formatMakesNoWrites);
        CHECK.sentence("2: all blocks unmapped, whatever intent held", NewAndFormatTest::formatForgetsAnIntent);
        CHECK.sentence("2: 'Answers 0'", NewAndFormatTest::formatAnswersZero);
        CHECK.end();
    }

    /** An object that is made with the first four sizes and is due to have the last four. */
    private static void dueSizes(int w, int c, int v, int b, int words, int chunks, int volumes, int blocks) {
        Bench x = new Bench(CHECK, new SharedVolumes(w, c, v, b), words, chunks, volumes, blocks);
        dueWords(x);
        dueVolumesAndBlocks(x);
        dueChunks(x);
    }

    private static void dueWords(Bench x) {
        for (int i = 0; i < x.words; i++) {
            x.due(0).stageWord(i, 900 + i);
        }
        x.due(BADARG).stageWord(x.words, 1);
        x.due(0).writeBlock(0, 0);
        x.due(x.words + 6).writes();
        x.due(900 + x.words - 1).readWord(0, 0, x.words - 1);
        x.due(900 + x.words - 1).slotWord(0, x.words - 1);
        x.due(0).readWord(0, 0, x.words);
        x.due(0).slotWord(0, x.words);
    }

    private static void dueVolumesAndBlocks(Bench x) {
        x.due(0).writeBlock(x.volumes - 1, x.blocks - 1);
        x.due(0).slotOf(x.volumes - 1, x.blocks - 1);
        x.due(BADARG).slotOf(x.volumes, 0);
        x.due(BADARG).slotOf(0, x.blocks);
        x.due(BADARG).writeBlock(x.volumes, 0);
        x.due(BADARG).writeBlock(0, x.blocks);
        x.due(BADARG).trim(x.volumes, 0);
        x.due(BADARG).trim(0, x.blocks);
        x.due(BADARG).dropVol(x.volumes);
        x.due(BADARG).cloneVol(0, x.volumes);
        x.due(BADARG).cloneVol(x.volumes, 0);
        for (int vol = 0; vol < x.volumes; vol++) {
            int before = x.writesNow();
            x.due(0).dropVol(vol);
            x.due(before + 5 + x.blocks).writes();
        }
        x.due(0).chunksUsed();
    }

    // With as many blocks as contents or fewer, the last slot but not NOROOM can be met.
    private static void dueChunks(Bench x) {
        int all = x.volumes * x.blocks;
        int used = Math.min(all, x.chunks);
        for (int at = 0; at < used; at++) {
            x.put(at / x.blocks, at % x.blocks, at);
        }
        x.due(used).chunksUsed();
        x.stage(99);
        if (all > x.chunks) {
            x.due(NOROOM).writeBlock(x.volumes - 1, x.blocks - 1);
        }
        x.due(0).writeBlock(0, 0);
        x.due(used).chunksUsed();
        x.due(used).slotOf(0, 0);
        x.due(99).slotWord(used, 0);
        x.due(0).slotWord(x.chunks + 1, 0);
    }

    private static void sizesAreTaken() {
        for (int w = 1; w <= 4; w++) {
            dueSizes(w, 3, 2, 2, w, 3, 2, 2);
        }
        for (int c = 1; c <= 12; c++) {
            dueSizes(2, c, 4, 6, 2, c, 4, 6);
        }
        for (int v = 1; v <= 4; v++) {
            dueSizes(2, 3, v, 2, 2, 3, v, 2);
        }
        for (int b = 1; b <= 6; b++) {
            dueSizes(2, 3, 2, b, 2, 3, 2, b);
        }
        dueSizes(1, 1, 1, 1, 1, 1, 1, 1);
        dueSizes(4, 12, 4, 6, 4, 12, 4, 6);
        dueSizes(1, 12, 1, 1, 1, 12, 1, 1);
    }

    private static void wordsBelowOne() {
        for (int size : BELOW_ONE) {
            dueSizes(size, 3, 2, 3, 1, 3, 2, 3);
        }
    }

    private static void chunksBelowOne() {
        for (int size : BELOW_ONE) {
            dueSizes(2, size, 2, 3, 2, 1, 2, 3);
        }
    }

    private static void volumesBelowOne() {
        for (int size : BELOW_ONE) {
            dueSizes(2, 3, size, 4, 2, 3, 1, 4);
        }
    }

    private static void blocksBelowOne() {
        for (int size : BELOW_ONE) {
            dueSizes(2, 3, 4, size, 2, 3, 4, 1);
        }
        dueSizes(0, 0, 0, 0, 1, 1, 1, 1);
        dueSizes(LEAST, LEAST, LEAST, LEAST, 1, 1, 1, 1);
    }

    private static void wordsAtMostFour() {
        for (int more : ABOVE) {
            dueSizes(4 + more, 3, 2, 3, 4, 3, 2, 3);
        }
        dueSizes(MOST, 3, 2, 3, 4, 3, 2, 3);
    }

    private static void chunksAtMostTwelve() {
        for (int more : ABOVE) {
            dueSizes(2, 12 + more, 4, 6, 2, 12, 4, 6);
        }
        dueSizes(2, MOST, 4, 6, 2, 12, 4, 6);
    }

    private static void volumesAtMostFour() {
        for (int more : ABOVE) {
            dueSizes(2, 3, 4 + more, 3, 2, 3, 4, 3);
        }
        dueSizes(2, 3, MOST, 3, 2, 3, 4, 3);
    }

    private static void blocksAtMostSix() {
        for (int more : ABOVE) {
            dueSizes(2, 3, 2, 6 + more, 2, 3, 2, 6);
        }
        dueSizes(2, 3, 2, MOST, 2, 3, 2, 6);
        dueSizes(MOST, MOST, MOST, MOST, 4, 12, 4, 6);
    }

    private static void newIsAsFormatted() {
        Bench made = bench(4, 12, 4, 6);
        made.dueDown(false);
        made.due(0).writes();
        made.due(0).chunksUsed();
        for (int vol = 0; vol < 4; vol++) {
            made.dueSlots(vol, NOTMAPPED, NOTMAPPED, NOTMAPPED, NOTMAPPED, NOTMAPPED, NOTMAPPED);
        }
        for (int slot = 0; slot <= 12; slot++) {
            made.dueSlotWords(slot, 0, 0, 0, 0);
        }
        Bench formatted = bench(4, 12, 4, 6);
        formatted.due(0).format();
        made.dueState(formatted.state());
        made.due(0).writeBlock(3, 5);
        formatted.due(0).writeBlock(3, 5);
        made.dueContents(3, 5, 0, 0, 0, 0);
        made.due(10).writes();
    }

    private static void newHasNoLosses() {
        Bench other = bench(1, 1, 1, 1);
        for (int i = 0; i < 31; i++) {
            other.crashAfter(1);
        }
        Bench b = bench(1, 1, 1, 1);
        b.put(0, 0, 5);
        for (int i = 0; i < 300; i++) {
            b.due(0).dropVol(0);
        }
        b.dueDown(false);
        for (int i = 0; i < 30; i++) {
            b.crashAfter(1);
            b.due(DOWN).dropVol(0);
            b.due(0).recover();
        }
        b.crashAfter(1);
        b.due(0).dropVol(0);
        other.due(DOWN).dropVol(0);
    }

    private static Bench filled() {
        Bench b = bench(2, 12, 4, 6);
        for (int at = 0; at < 24; at++) {
            b.put(at / 6, at % 6, 1 + at % 12, 50 + at % 12);
        }
        b.put(0, 0, 2, 51);
        b.put(2, 0, 91, 92);
        b.stage(93, 94);
        return b;
    }

    private static void formatUnmapsAll() {
        Bench b = filled();
        b.due(12).chunksUsed();
        b.due(0).format();
        b.due(0).chunksUsed();
        for (int vol = 0; vol < 4; vol++) {
            b.dueSlots(vol, NOTMAPPED, NOTMAPPED, NOTMAPPED, NOTMAPPED, NOTMAPPED, NOTMAPPED);
            b.due(0).refsOf(vol, 0);
            b.due(0).readWord(vol, 5, 1);
            b.due(NOTMAPPED).trim(vol, 3);
        }
        b.put(1, 1, 5, 6);
        b.dueSlots(1, NOTMAPPED, 0, NOTMAPPED);
    }

    private static void formatClearsSlots() {
        Bench b = filled();
        b.dueSlotWords(0, 1, 50);
        b.dueSlotWords(12, 91, 92);
        b.due(0).dropVol(0);
        b.due(0).format();
        for (int slot = 0; slot <= 12; slot++) {
            b.dueSlotWords(slot, 0, 0);
        }
        Bench lost = bench(2, 3, 1, 1);
        lost.stage(7, 8);
        lost.crashAfter(3);
        lost.due(DOWN).writeBlock(0, 0);
        lost.due(0).recover();
        lost.dueSlotWords(0, 7, 8);
        lost.due(0).format();
        lost.dueSlotWords(0, 0, 0);
    }

    private static void formatClearsStaged() {
        for (int w = 1; w <= 4; w++) {
            Bench b = bench(w, 2, 1, 1);
            for (int i = 0; i < w; i++) {
                b.due(0).stageWord(i, 5 + i);
            }
            b.due(0).format();
            b.due(0).writeBlock(0, 0);
            for (int i = 0; i < w; i++) {
                b.due(0).readWord(0, 0, i);
            }
        }
    }

    private static void formatBringsPower() {
        for (int n = 1; n <= 8; n++) {
            Bench b = bench(2, 2, 1, 1);
            b.stage(5, 6);
            b.crashAfter(n);
            b.due(DOWN).writeBlock(0, 0);
            b.dueDown(true);
            b.due(0).format();
            b.dueDown(false);
            b.due(0).chunksUsed();
            b.put(0, 0, 7, 8);
            b.dueContents(0, 0, 7, 8);
        }
    }

    private static void formatDisarms() {
        for (int n : new int[] {1, 2, 7, MOST}) {
            Bench b = bench(1, 2, 1, 1);
            b.crashAfter(n);
            b.due(0).format();
            for (int i = 0; i < 10; i++) {
                b.put(0, 0, 5 + i);
            }
            b.dueDown(false);
            b.due(70).writes();
        }
    }

    private static void formatMakesNoWrites() {
        Bench b = filled();
        int before = b.writesNow();
        b.crashAfter(1);
        b.due(0).format();
        b.due(before).writes();
        b.dueDown(false);
        b.due(0).format();
        b.due(before).writes();
        b.put(0, 0, 1, 2);
        b.due(before + 8).writes();
    }

    private static void formatForgetsAnIntent() {
        for (Change change : Change.values()) {
            Bench b = change.prepared(3);
            b.crashAfter(change.wordWrites() + 5);
            change.due(b, DOWN);
            b.due(0).format();
            int before = b.writesNow();
            b.due(0).recover();
            for (int n = 1; n <= 4; n++) {
                b.crashAfter(n);
                b.due(DOWN).dropVol(0);
                b.due(0).recover();
            }
            b.due(before + 6).writes();
            b.due(0).chunksUsed();
            b.dueSlots(1, NOTMAPPED, NOTMAPPED, NOTMAPPED);
        }
    }

    private static void formatAnswersZero() {
        Bench b = bench(1, 1, 1, 1);
        b.due(0).format();
        b.put(0, 0, 5);
        b.due(0).format();
        b.due(0).format();
        b.crashAfter(1);
        b.due(DOWN).dropVol(0);
        b.due(0).format();
        b.crashAfter(5);
        b.due(DOWN).dropVol(0);
        b.due(0).format();
    }
}
