/** The sentences of promises 5 (readWord), 9 (chunksUsed), 10 (refsOf), 11 (slotOf) and 12 (slotWord). */
public final class LookingTest extends Sentences {
    public static void main(String[] args) {
        CHECK.sentence("5: 'Word i of the contents of a block'", LookingTest::readWordOfABlock);
        CHECK.sentence("5: '0 when it is unmapped'", LookingTest::readWordOfUnmapped);
        CHECK.sentence("5: '0 when .. there is no such block'", LookingTest::readWordOfNoBlock);
        CHECK.sentence("5: '0 when .. there is no such .. word'", LookingTest::readWordOfNoWord);
        CHECK.sentence("9: 'How many different contents are mapped'", LookingTest::chunksUsedFromNoneToAll);
        CHECK.sentence("9: 'different contents', shared ones once", LookingTest::chunksUsedOfShared);
        CHECK.sentence("10: 'How many blocks of all volumes ..'", LookingTest::refsOfAllVolumes);
        CHECK.sentence("10: 'itself included'", LookingTest::refsOfBlockAlone);
        CHECK.sentence("10: '0 when it is unmapped'", LookingTest::refsOfUnmapped);
        CHECK.sentence("10: '0 when .. there is no such block'", LookingTest::refsOfNoBlock);
        CHECK.sentence("11: 'The slot of a block'", LookingTest::slotOfABlock);
        CHECK.sentence("11: 'NOTMAPPED when it is unmapped'", LookingTest::slotOfUnmapped);
        CHECK.sentence("11: 'BADARG when there is no such block'", LookingTest::slotOfNoBlock);
        CHECK.sentence("12: 'Word i of a slot, used'", LookingTest::slotWordOfUsed);
        CHECK.sentence("12: '.. or not'", LookingTest::slotWordOfUnused);
        CHECK.sentence("12: '0 when there is no such slot'", LookingTest::slotWordOfNoSlot);
        CHECK.sentence("12: '0 when there is no such .. word'", LookingTest::slotWordOfNoWord);
        CHECK.sentence("5, 9 to 12: looking changes nothing", LookingTest::lookingChangesNothing);
        CHECK.end();
    }

    private static void readWordOfABlock() {
        for (int w = 1; w <= 4; w++) {
            int[] words = {-1, LEAST, MOST, -4};
            Bench b = bench(w, 12, 4, 6);
            for (int i = 0; i < w; i++) {
                b.due(0).stageWord(i, words[i]);
            }
            b.due(0).writeBlock(0, 0);
            b.due(0).writeBlock(3, 5);
            for (int i = 0; i < w; i++) {
                b.due(words[i]).readWord(0, 0, i);
                b.due(words[i]).readWord(3, 5, i);
                b.due(0).readWord(0, 5, i);
                b.due(0).readWord(3, 0, i);
            }
        }
    }

    // Slot 0 has words other than 0, also when no block is mapped to it.
    private static void readWordOfUnmapped() {
        Bench b = bench(2, 3, 2, 2);
        b.dueContents(0, 0, 0, 0);
        b.dueContents(1, 1, 0, 0);
        b.put(0, 0, 5, 6);
        b.dueContents(0, 1, 0, 0);
        b.due(0).trim(0, 0);
        b.dueContents(0, 0, 0, 0);
        b.put(0, 0, 7, 8);
        b.due(0).dropVol(0);
        b.dueContents(0, 0, 0, 0);
        b.put(0, 0, 9, 10);
        b.due(0).cloneVol(1, 0);
        b.dueContents(0, 0, 0, 0);
    }

    // All slots have words that are numbers of slots, so that a cell read by mistake looks like a map.
    private static Bench allMapped() {
        Bench b = bench(2, 6, 2, 3);
        for (int vol = 0; vol < 2; vol++) {
            for (int lb = 0; lb < 3; lb++) {
                b.put(vol, lb, 3 * vol + lb + 1, 1);
            }
        }
        b.put(1, 2, 2, 2);
        b.due(6).slotOf(1, 2);
        return b;
    }

    private static void readWordOfNoBlock() {
        Bench b = allMapped();
        for (int[] pair : noBlocks(2, 3)) {
            b.due(0).readWord(pair[0], pair[1], 0);
            b.due(0).readWord(pair[0], pair[1], 1);
        }
        b.due(0).readWord(-1, 0, 2);
    }

    private static void readWordOfNoWord() {
        Bench b = allMapped();
        for (int i : outside(2)) {
            b.due(0).readWord(0, 0, i);
            b.due(0).readWord(1, 0, i);
            b.due(0).readWord(1, 2, i);
        }
        for (int w = 1; w <= 4; w++) {
            Bench one = bench(w, 2, 1, 1);
            for (int i = 0; i < w; i++) {
                one.due(0).stageWord(i, 5);
            }
            one.due(0).writeBlock(0, 0);
            one.due(5).readWord(0, 0, w - 1);
            one.due(0).readWord(0, 0, w);
            one.due(0).readWord(0, 0, -1);
        }
    }

    private static void chunksUsedFromNoneToAll() {
        for (int c = 1; c <= 12; c++) {
            Bench b = bench(1, c, 2, 6);
            b.due(0).chunksUsed();
            for (int at = 0; at < c; at++) {
                b.put(at / 6, at % 6, at);
                b.due(at + 1).chunksUsed();
            }
            for (int at = c - 1; at >= 0; at--) {
                b.due(0).trim(at / 6, at % 6);
                b.due(at).chunksUsed();
            }
        }
    }

    private static void chunksUsedOfShared() {
        Bench b = bench(2, 3, 4, 6);
        for (int at = 0; at < 24; at++) {
            b.put(at / 6, at % 6, 0, at % 2);
            b.due(at == 0 ? 1 : 2).chunksUsed();
        }
        b.due(0).dropVol(0);
        b.due(2).chunksUsed();
        b.due(0).dropVol(1);
        b.due(0).dropVol(2);
        b.due(2).chunksUsed();
        for (int lb = 0; lb < 6; lb++) {
            b.due(0).trim(3, lb);
            b.due(lb < 4 ? 2 : 5 - lb).chunksUsed();
        }
    }

    private static void refsOfAllVolumes() {
        Bench b = bench(1, 3, 4, 6);
        for (int at = 0; at < 24; at++) {
            b.put(at / 6, at % 6, 5);
            b.due(at + 1).refsOf(0, 0);
            b.due(at + 1).refsOf(at / 6, at % 6);
        }
        b.due(0).trim(2, 3);
        b.due(23).refsOf(0, 0);
        b.put(3, 5, 6);
        b.due(22).refsOf(0, 0);
        b.due(0).dropVol(1);
        b.due(16).refsOf(0, 0);
        b.due(0).cloneVol(0, 1);
        b.due(22).refsOf(1, 5);
    }

    private static void refsOfBlockAlone() {
        Bench b = bench(2, 3, 2, 2);
        b.put(0, 0, 0, 0);
        b.due(1).refsOf(0, 0);
        b.put(1, 1, 0, 1);
        b.due(1).refsOf(0, 0);
        b.due(1).refsOf(1, 1);
        b.put(1, 1, 0, 0);
        b.due(2).refsOf(1, 1);
    }

    private static void refsOfUnmapped() {
        Bench b = bench(1, 3, 2, 2);
        b.due(0).refsOf(0, 0);
        b.due(0).refsOf(1, 1);
        b.put(0, 0, 0);
        b.due(0).refsOf(0, 1);
        b.due(0).trim(0, 0);
        b.due(0).refsOf(0, 0);
    }

    private static void refsOfNoBlock() {
        Bench b = allMapped();
        for (int[] pair : noBlocks(2, 3)) {
            b.due(0).refsOf(pair[0], pair[1]);
        }
    }

    private static void slotOfABlock() {
        Bench b = bench(1, 12, 4, 6);
        for (int at = 0; at < 12; at++) {
            b.put(at / 3, at % 3, 50 + at);
            b.due(at).slotOf(at / 3, at % 3);
        }
        b.put(0, 0, 40);
        b.due(12).slotOf(0, 0);
        b.put(3, 5, 40);
        b.due(12).slotOf(3, 5);
    }

    private static void slotOfUnmapped() {
        Bench b = bench(1, 3, 2, 2);
        b.dueSlots(0, NOTMAPPED, NOTMAPPED);
        b.put(0, 1, 5);
        b.dueSlots(0, NOTMAPPED, 0);
        b.dueSlots(1, NOTMAPPED, NOTMAPPED);
        b.due(0).trim(0, 1);
        b.dueSlots(0, NOTMAPPED, NOTMAPPED);
    }

    private static void slotOfNoBlock() {
        for (int[] pair : noBlocks(2, 3)) {
            bench(2, 12, 2, 3).due(BADARG).slotOf(pair[0], pair[1]);
        }
        Bench b = allMapped();
        for (int[] pair : noBlocks(2, 3)) {
            b.due(BADARG).slotOf(pair[0], pair[1]);
        }
    }

    private static void slotWordOfUsed() {
        for (int w = 1; w <= 4; w++) {
            Bench b = bench(w, 2, 1, 3);
            for (int slot = 0; slot < 2; slot++) {
                for (int i = 0; i < w; i++) {
                    b.due(0).stageWord(i, -4 + slot + 10 * i);
                }
                b.due(0).writeBlock(0, slot);
            }
            b.due(0).stageWord(0, MOST);
            b.due(0).writeBlock(0, 0);
            for (int i = 0; i < w; i++) {
                b.due(-3 + 10 * i).slotWord(1, i);
                b.due(i == 0 ? MOST : -3 + 10 * i).slotWord(2, i);
            }
        }
    }

    private static void slotWordOfUnused() {
        for (int way = 0; way < 4; way++) {
            Bench b = bench(2, 2, 2, 1);
            b.put(0, 0, 5, 6);
            switch (way) {
                case 0 -> b.due(0).trim(0, 0);
                case 1 -> b.due(0).dropVol(0);
                case 2 -> b.due(0).cloneVol(1, 0);
                default -> b.put(0, 0, 7, 8);
            }
            b.dueSlotWords(0, 5, 6);
            b.dueSlotWords(2, 0, 0);
            b.put(1, 0, 9, 10);
            b.dueSlotWords(0, 9, 10);
        }
    }

    private static void slotWordOfNoSlot() {
        for (int c : new int[] {1, 2, 11, 12}) {
            Bench b = bench(2, c, 2, 6);
            for (int at = 0; at < c; at++) {
                b.put(at / 6, at % 6, 5 + at, 6);
            }
            b.put(0, 0, 90, 91);
            b.dueSlotWords(c, 90, 91);
            for (int slot : outside(c + 1)) {
                b.dueSlotWords(slot, 0, 0);
            }
        }
    }

    private static void slotWordOfNoWord() {
        for (int w = 1; w <= 4; w++) {
            Bench b = bench(w, 1, 1, 1);
            for (int slot = 0; slot < 2; slot++) {
                for (int i = 0; i < w; i++) {
                    b.due(0).stageWord(i, 5 + slot);
                }
                b.due(0).writeBlock(0, 0);
            }
            for (int i : outside(w)) {
                b.due(0).slotWord(0, i);
                b.due(0).slotWord(1, i);
            }
            b.due(5).slotWord(0, w - 1);
            b.due(6).slotWord(1, 0);
        }
    }

    private static void lookingChangesNothing() {
        Bench b = bench(2, 3, 2, 2);
        b.put(0, 0, 1, 2);
        b.put(1, 1, 3, 4);
        b.stage(5, 6);
        b.crashAfter(9);
        b.dueState(b.state());
        b.due(0).writeBlock(1, 0);
        b.dueContents(1, 0, 5, 6);
        b.due(24).writes();
        b.due(DOWN).trim(0, 0);
    }
}
