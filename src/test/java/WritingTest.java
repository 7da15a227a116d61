/** The sentences of promises 3 (stageWord) and 4 (writeBlock). */
public final class WritingTest extends Sentences {
    public static void main(String[] args) {
        CHECK.sentence("3: 'Word i of the staged block becomes word: 0'", WritingTest::stageWordSetsOneWord);
        CHECK.sentence("3: 'BADARG when there is none'", WritingTest::stageWordOfNoWord);
        CHECK.sentence("4: 'The block gets the staged contents: 0'", WritingTest::writeBlockStores);
        CHECK.sentence("4: 'BADARG when there is no such block'", WritingTest::writeBlockOfNoBlock);
        CHECK.sentence("4: 'NOROOM when more than C different contents', an unmapped block", WritingTest::noRoomForOneMore);
        CHECK.sentence("4: 'more than C .. would be mapped then', a block that shares", WritingTest::noRoomForSharer);
        CHECK.sentence("4: 'more than C .. would be mapped then', a block alone", WritingTest::roomForBlockAlone);
        CHECK.sentence("4: 'different contents', those that are stored", WritingTest::roomForStoredContents);
        CHECK.sentence("4: 'would be mapped then', room again", WritingTest::roomAgain);
        CHECK.sentence("4: 'When it has these contents already, nothing is written'", WritingTest::sameContentsWriteNothing);
        CHECK.sentence("4: 'contents already', not an unmapped block", WritingTest::unmappedHasNoContents);
        CHECK.sentence("4: 'When a used slot has them, the change maps the block to that slot'", WritingTest::usedSlotIsShared);
        CHECK.sentence("4: 'a used slot', not an unused one with them", WritingTest::unusedSlotIsNotShared);
        CHECK.sentence("4: 'the lowest slot that is not used'", WritingTest::lowestUnusedSlot);
        CHECK.sentence("4: 'not used', not the block's own slot", WritingTest::ownSlotIsUsed);
        CHECK.sentence("4: '(W writes'", WritingTest::allWordsAreWritten);
        CHECK.sentence("4: 'the first word first)'", WritingTest::firstWordFirst);
        CHECK.sentence("4: 'and then the change maps the block to it'", WritingTest::wordsBeforeTheChange);
        CHECK.end();
    }

    private static void stageWordSetsOneWord() {
        for (int w = 1; w <= 4; w++) {
            Bench b = bench(w, 6, 1, 6);
            int[] ints = {LEAST, MOST, 0, -1};
            for (int i = 0; i < w; i++) {
                b.due(0).stageWord(i, 40 + i);
                b.due(0).stageWord(i, ints[i]);
                b.due(0).writeBlock(0, i);
                for (int j = 0; j < w; j++) {
                    b.due(j <= i ? ints[j] : 0).readWord(0, i, j);
                }
            }
        }
        Bench b = bench(2, 3, 1, 1);
        b.put(0, 0, 5, 6);
        b.due(0).stageWord(1, 7);
        b.due(8).writes();
        b.dueContents(0, 0, 5, 6);
        b.dueSlotWords(0, 5, 6);
    }

    private static void stageWordOfNoWord() {
        for (int w = 1; w <= 4; w++) {
            Bench b = bench(w, 3, 1, 1);
            for (int i = 0; i < w; i++) {
                b.due(0).stageWord(i, 10 + i);
            }
            for (int i : outside(w)) {
                b.due(BADARG).stageWord(i, 99);
            }
            b.due(0).writeBlock(0, 0);
            for (int i = 0; i < w; i++) {
                b.due(10 + i).readWord(0, 0, i);
            }
        }
    }

    private static void writeBlockStores() {
        Bench b = bench(4, 12, 4, 6);
        int[][] places = {{0, 0}, {0, 5}, {1, 0}, {3, 0}, {3, 5}};
        for (int k = 0; k < places.length; k++) {
            b.put(places[k][0], places[k][1], k, -k, k + 100, LEAST + k);
        }
        for (int k = 0; k < places.length; k++) {
            b.dueContents(places[k][0], places[k][1], k, -k, k + 100, LEAST + k);
            b.due(k).slotOf(places[k][0], places[k][1]);
            b.due(1).refsOf(places[k][0], places[k][1]);
        }
        b.due(5).chunksUsed();
        b.due(50).writes();
        b.put(3, 5, 7, 7, 7, 7);
        b.dueContents(3, 5, 7, 7, 7, 7);
        b.dueContents(3, 0, 3, -3, 103, LEAST + 3);
        b.due(5).chunksUsed();
    }

    private static void writeBlockOfNoBlock() {
        for (int[] pair : noBlocks(2, 3)) {
            Bench b = bench(1, 1, 2, 3);
            b.due(BADARG).writeBlock(pair[0], pair[1]);
            b.put(0, 0, 5);
            b.due(BADARG).writeBlock(pair[0], pair[1]);
            b.stage(6);
            b.due(BADARG).writeBlock(pair[0], pair[1]);
            b.due(7).writes();
            b.dueSlots(0, 0, NOTMAPPED, NOTMAPPED);
            b.dueSlots(1, NOTMAPPED, NOTMAPPED, NOTMAPPED);
        }
    }

    private static Bench withContents(int chunks, int count) {
        Bench b = bench(2, chunks, 4, 6);
        for (int at = 0; at < count; at++) {
            b.put(at / 6, at % 6, 100 + at, 7);
        }
        b.due(count).chunksUsed();
        return b;
    }

    private static void noRoomForOneMore() {
        for (int c = 1; c <= 12; c++) {
            Bench b = withContents(c, c - 1);
            b.put(2, 0, 50, 51);
            b.due(c).chunksUsed();
            int before = b.writesNow();
            b.stage(52, 53);
            b.due(NOROOM).writeBlock(3, 5);
            b.due(NOTMAPPED).slotOf(3, 5);
            b.due(before).writes();
            b.due(c).chunksUsed();
            b.dueSlotWords(c, 0, 0);
        }
    }

    private static void noRoomForSharer() {
        for (int c = 1; c <= 12; c++) {
            Bench b = withContents(c, c);
            b.put(3, 5, 100, 7);
            b.stage(52, 53);
            b.due(NOROOM).writeBlock(0, 0);
            b.due(NOROOM).writeBlock(3, 5);
            b.dueContents(0, 0, 100, 7);
            b.due(2).refsOf(3, 5);
            b.due(c).chunksUsed();
            b.due(0).trim(3, 5);
            b.due(0).writeBlock(0, 0);
            b.dueContents(0, 0, 52, 53);
        }
    }

    private static void roomForBlockAlone() {
        for (int c = 1; c <= 12; c++) {
            Bench b = withContents(c, c);
            b.stage(52, 53);
            b.due(0).writeBlock(0, 0);
            b.due(c).slotOf(0, 0);
            b.dueContents(0, 0, 52, 53);
            b.due(c).chunksUsed();
            b.due(8 * c + 8).writes();
            int last = c - 1;
            b.stage(54, 55);
            b.due(0).writeBlock(last / 6, last % 6);
            b.due(0).slotOf(last / 6, last % 6);
            b.due(c).chunksUsed();
        }
    }

    private static void roomForStoredContents() {
        for (int c = 1; c <= 12; c++) {
            Bench b = withContents(c, c);
            for (int k = 0; k < c; k++) {
                b.stage(100 + k, 7);
                b.due(0).writeBlock(3, k % 6);
                b.due(k).slotOf(3, k % 6);
            }
            b.due(c).chunksUsed();
            b.due(8 * c + 6 * c).writes();
        }
    }

    private static void roomAgain() {
        for (int way = 0; way < 3; way++) {
            Bench b = withContents(2, 2);
            b.put(1, 0, 101, 7);
            b.stage(52, 53);
            b.due(NOROOM).writeBlock(3, 0);
            switch (way) {
                case 0 -> b.due(0).trim(0, 0);
                case 1 -> b.due(0).dropVol(0);
                default -> b.due(0).cloneVol(1, 0);
            }
            b.due(1).chunksUsed();
            b.due(0).writeBlock(3, 0);
            b.due(2).chunksUsed();
            b.stage(54, 55);
            b.due(NOROOM).writeBlock(3, 1);
        }
    }

    private static void sameContentsWriteNothing() {
        for (int[] words : new int[][] {{5, 6}, {0, 0}, {-3, LEAST}}) {
            Bench b = bench(2, 1, 2, 2);
            b.put(0, 1, words);
            b.put(1, 1, words);
            b.crashAfter(1);
            b.due(0).writeBlock(0, 1);
            b.due(0).writeBlock(1, 1);
            b.put(0, 1, words);
            b.due(14).writes();
            b.dueDown(false);
            b.dueSlots(0, NOTMAPPED, 0);
            b.due(2).refsOf(0, 1);
            b.due(DOWN).trim(0, 1);
            b.due(14).writes();
        }
    }

    private static void unmappedHasNoContents() {
        Bench b = bench(2, 2, 1, 2);
        b.due(0).writeBlock(0, 1);
        b.due(8).writes();
        b.due(0).writeBlock(0, 0);
        b.due(14).writes();
        b.dueSlots(0, 0, 0);
        b.due(0).trim(0, 0);
        b.due(0).writeBlock(0, 0);
        b.due(26).writes();
        b.dueSlots(0, 0, 0);
    }

    private static void usedSlotIsShared() {
        Bench b = bench(2, 12, 2, 6);
        for (int lb = 0; lb < 6; lb++) {
            b.put(0, lb, lb, 9);
        }
        b.due(48).writes();
        for (int lb = 0; lb < 6; lb++) {
            b.put(1, lb, 5 - lb, 9);
            b.due(5 - lb).slotOf(1, lb);
            b.due(48 + 6 * (lb + 1)).writes();
        }
        b.due(6).chunksUsed();
        b.put(0, 0, 3, 9);
        b.due(3).slotOf(0, 0);
        b.due(3).refsOf(0, 0);
        b.due(1).refsOf(1, 5);
        b.put(1, 5, 3, 9);
        b.due(5).chunksUsed();
        b.dueSlotWords(0, 0, 9);
        b.due(48 + 36 + 12).writes();
        Bench last = bench(1, 2, 1, 3);
        last.put(0, 0, 5);
        last.put(0, 1, 6);
        last.put(0, 1, 7);
        last.put(0, 2, 7);
        last.dueSlots(0, 0, 2, 2);
        last.due(27).writes();
    }

    private static void unusedSlotIsNotShared() {
        Bench b = bench(2, 5, 1, 4);
        b.put(0, 0, 1, 9);
        b.put(0, 1, 2, 9);
        b.put(0, 2, 3, 9);
        b.due(0).trim(0, 0);
        b.due(0).trim(0, 2);
        b.put(0, 3, 3, 9);
        b.due(0).slotOf(0, 3);
        b.due(3 * 8 + 2 * 6 + 8).writes();
        b.dueSlotWords(0, 3, 9);
        b.dueSlotWords(2, 3, 9);
        b.due(1).refsOf(0, 3);
        b.put(0, 0, 0, 0);
        b.due(2).slotOf(0, 0);
        b.due(52).writes();
        b.dueSlotWords(2, 0, 0);
    }

    private static void lowestUnusedSlot() {
        for (int free = 0; free < 5; free++) {
            Bench b = bench(1, 6, 1, 6);
            for (int lb = 0; lb < 6; lb++) {
                b.put(0, lb, 10 + lb);
            }
            b.due(0).trim(0, 5);
            b.due(0).trim(0, free);
            b.put(0, 5, 20);
            b.due(free).slotOf(0, 5);
            b.due(20).slotWord(free, 0);
            b.put(0, free, 21);
            b.due(5).slotOf(0, free);
        }
        Bench b = bench(1, 6, 1, 6);
        b.put(0, 0, 5);
        b.put(0, 1, 6);
        b.put(0, 2, 7);
        b.due(0).dropVol(0);
        b.put(0, 2, 8);
        b.due(0).slotOf(0, 2);
        b.put(0, 1, 9);
        b.due(1).slotOf(0, 1);
    }

    private static void ownSlotIsUsed() {
        for (int c : new int[] {1, 2, 12}) {
            Bench b = bench(2, c, 1, 1);
            for (int k = 0; k < 6; k++) {
                b.put(0, 0, 10 + k, k);
                b.due(k % 2).slotOf(0, 0);
                b.due(1).chunksUsed();
            }
            b.dueSlotWords(0, 14, 4);
            b.dueSlotWords(1, 15, 5);
        }
    }

    // Also when the slot has some of the words, or all, already.
    private static void allWordsAreWritten() {
        for (int w = 1; w <= 4; w++) {
            Bench b = bench(w, 2, 1, 2);
            b.due(0).writeBlock(0, 0);
            b.due(w + 6).writes();
            b.due(0).stageWord(w - 1, 5);
            b.due(0).writeBlock(0, 0);
            b.due(2 * (w + 6)).writes();
            b.due(0).trim(0, 0);
            b.due(0).stageWord(w - 1, 0);
            b.due(0).writeBlock(0, 0);
            b.due(0).slotOf(0, 0);
            b.due(3 * (w + 6) + 6).writes();
        }
    }

    private static void firstWordFirst() {
        for (int w = 1; w <= 4; w++) {
            for (int n = 1; n <= w + 1; n++) {
                Bench b = bench(w, 2, 1, 2);
                for (int i = 0; i < w; i++) {
                    b.due(0).stageWord(i, 10 + i);
                }
                b.crashAfter(n);
                b.due(DOWN).writeBlock(0, 1);
                b.due(n - 1).writes();
                b.due(0).recover();
                for (int i = 0; i < w; i++) {
                    b.due(i < n - 1 ? 10 + i : 0).slotWord(0, i);
                }
                b.due(0).slotWord(1, 0);
                b.dueSlots(0, NOTMAPPED, NOTMAPPED);
            }
        }
    }

    private static void wordsBeforeTheChange() {
        for (int w = 1; w <= 4; w++) {
            for (int n = w + 1; n <= w + 6; n++) {
                Bench b = bench(w, 2, 1, 2);
                for (int i = 0; i < w; i++) {
                    b.due(0).stageWord(i, 10 + i);
                }
                b.crashAfter(n);
                b.due(DOWN).writeBlock(0, 1);
                b.due(0).recover();
                boolean done = n > w + 4;
                b.dueSlots(0, NOTMAPPED, done ? 0 : NOTMAPPED);
                b.due(done ? 1 : 0).chunksUsed();
                for (int i = 0; i < w; i++) {
                    b.due(10 + i).slotWord(0, i);
                    b.due(done ? 10 + i : 0).readWord(0, 1, i);
                }
            }
        }
    }
}
