import java.util.HashSet;
import java.util.Set;

/** The sentences of 'What it is' and 'Terms', which hold for all calls. */
public final class TermsTest extends Sentences {
    private static final int[] BLOCK_COUNTS = {1, 2, 3, 6};

    public static void main(String[] args) {
        CHECK.sentence("What it is: 'An object is used for at most 512 calls'", TermsTest::all512CallsAnswer);
        CHECK.sentence("Terms: 'V VOLUMES 0 .. V - 1 of B BLOCKS 0 .. B - 1 each'", TermsTest::eachBlockIsItsOwn);
        CHECK.sentence("Terms: 'a block is UNMAPPED, or MAPPED to a SLOT'", TermsTest::unmappedIsNotZeros);
        CHECK.sentence("Terms: 'C + 1 SLOTS 0 .. C'", TermsTest::oneSlotMoreThanContents);
        CHECK.sentence("Terms: 'each with W WORDS (ints)'", TermsTest::wordsAreInts);
        CHECK.sentence("Terms: words of slots 'are 0 at first'", TermsTest::slotsAreZeroAtFirst);
        CHECK.sentence("Terms: 'CONTENTS .. are the words of its slot'", TermsTest::contentsAreTheSlotsWords);
        CHECK.sentence("Terms: 'A slot is USED when a block is mapped to it'", TermsTest::usedWhileABlockIsMappedToIt);
        CHECK.sentence("Terms: 'the same contents .. the same slot'", TermsTest::sameContentsSameSlot);
        CHECK.sentence("Terms: 'the same contents', all words of them", TermsTest::oneOtherWordIsOtherContents);
        CHECK.sentence("Terms: 'the same slot', also after lost words", TermsTest::unusedTwinIsNotTaken);
        CHECK.sentence("Terms: 'At most C slots are used after any call'", TermsTest::atMostCSlotsAreUsed);
        CHECK.sentence("Terms: 'At most C slots', also after a loss", TermsTest::atMostCSlotsAfterALoss);
        CHECK.sentence("Terms: the staged block is '0 at first'", TermsTest::stagedIsZeroAtFirst);
        CHECK.sentence("Terms: the staged block 'belongs to no volume'", TermsTest::stagedBelongsToNoVolume);
        CHECK.sentence("Terms: 'word by word: each such write is a WRITE'", TermsTest::eachWordIsAWrite);
        CHECK.sentence("Terms: 'four writes of the INTENT ..'", TermsTest::orderOfAChange);
        CHECK.sentence("Terms: 'It HOLDS from the fourth write on'", TermsTest::holdsFromTheFourthWrite);
        CHECK.sentence("Terms: '.. mapped as it says, whatever happens'", TermsTest::holdsWhateverHappens);
        CHECK.sentence("Terms: 'one block, for writeBlock and trim'", TermsTest::oneBlockIsNamed);
        CHECK.sentence("Terms: 'all blocks of a volume, for cloneVol and dropVol'", TermsTest::allBlocksAreNamed);
        CHECK.sentence("Terms: '(also those that are mapped so already)'", TermsTest::blocksMappedSoAreNamed);
        CHECK.sentence("Terms: 'the next n - 1 writes happen, the n-th does not'", TermsTest::theNthWriteDoesNotHappen);
        CHECK.sentence("Terms: 'the next n - 1 writes', over several calls", TermsTest::writesOfSeveralCallsCount);
        CHECK.sentence("Terms: 'the power is DOWN from there on'", TermsTest::noWriteAfterTheLoss);
        CHECK.sentence("Terms: 'nothing is armed any more'", TermsTest::nothingIsArmedAfterTheLoss);
        CHECK.sentence("Terms: 'the call in which that is answers DOWN'", TermsTest::theCallAnswersDown);
        CHECK.sentence("Terms: 'a change that holds will be found done'", TermsTest::heldChangeIsFoundDone);
        CHECK.sentence("Terms: 'any other one not done'", TermsTest::otherChangeIsNotDone);
        CHECK.sentence("Terms: 'not done', nor an earlier one once more", TermsTest::earlierIntentIsNotDoneAgain);
        CHECK.sentence("Terms: '(words that were written to a slot stay ..)'", TermsTest::writtenWordsStay);
        CHECK.sentence("Terms: while down 'format .. do as they say'", TermsTest::downFormat);
        CHECK.sentence("Terms: while down 'recover .. do as they say'", TermsTest::downRecover);
        CHECK.sentence("Terms: while down 'down and writes do as they say'", TermsTest::downDownAndWrites);
        CHECK.sentence("Terms: while down 'crashAfter does nothing'", TermsTest::downCrashAfter);
        CHECK.sentence("Terms: 'all other calls answer DOWN'", TermsTest::downOtherCalls);
        CHECK.sentence("Terms: 'DOWN (readWord too)'", TermsTest::downReadWord);
        CHECK.sentence("Terms: '.. and change nothing'", TermsTest::downChangesNothing);
        CHECK.sentence("Terms: 'A call that answers another code changes nothing'", TermsTest::refusedCallsChangeNothing);
        CHECK.sentence("Terms: 'BADARG = -1: A number is out of its range'", TermsTest::badargOutOfRange);
        CHECK.sentence("Terms: 'NOROOM = -2: .. more different contents than C'", TermsTest::noroomAboveC);
        CHECK.sentence("Terms: 'NOTMAPPED = -3: The block is unmapped'", TermsTest::notmappedWhenUnmapped);
        CHECK.sentence("Terms: 'DOWN = -4: The power is down'", TermsTest::downWithoutPower);
        CHECK.end();
    }

    private static void all512CallsAnswer() {
        Bench b = bench(4, 12, 4, 6);
        for (int i = 1; i <= 254; i++) {
            b.due(0).stageWord(3, i);
            b.due(0).writeBlock(3, i % 6);
        }
        b.due(6).chunksUsed();
        b.due(254).readWord(3, 254 % 6, 3);
        b.due(2540).writes();
        b.due(NOTMAPPED).slotOf(0, 0);
        CHECK.due("calls made", b.callsMade(), 512);
    }

    private static void eachBlockIsItsOwn() {
        int[][] sizes = {{1, 1}, {1, 6}, {4, 1}, {2, 3}, {4, 6}};
        for (int[] size : sizes) {
            for (int at = 0; at < size[0] * size[1]; at++) {
                onlyOneIsMapped(bench(1, 2, size[0], size[1]), at / size[1], at % size[1]);
            }
        }
    }

    private static void onlyOneIsMapped(Bench b, int mappedVol, int mappedLb) {
        b.put(mappedVol, mappedLb, 5);
        for (int vol = 0; vol < b.volumes; vol++) {
            for (int lb = 0; lb < b.blocks; lb++) {
                boolean mapped = vol == mappedVol && lb == mappedLb;
                b.due(mapped ? 0 : NOTMAPPED).slotOf(vol, lb);
                b.due(mapped ? 5 : 0).readWord(vol, lb, 0);
            }
        }
    }

    private static void unmappedIsNotZeros() {
        Bench b = bench(2, 2, 1, 2);
        b.put(0, 1, 0, 0);
        b.dueSlots(0, NOTMAPPED, 0);
        b.due(0).refsOf(0, 0);
        b.due(1).refsOf(0, 1);
        b.due(1).chunksUsed();
        b.due(8).writes();
        b.due(NOTMAPPED).trim(0, 0);
        b.due(0).trim(0, 1);
        b.due(0).chunksUsed();
    }

    private static void oneSlotMoreThanContents() {
        for (int c = 1; c <= 12; c++) {
            Bench b = bench(2, c, 2, 6);
            for (int at = 0; at < c; at++) {
                b.put(at / 6, at % 6, at, 50);
                b.due(at).slotOf(at / 6, at % 6);
            }
            b.put(0, 0, 99, 51);
            b.due(c).slotOf(0, 0);
            b.dueSlotWords(c, 99, 51);
            b.dueSlotWords(c + 1, 0, 0);
            b.put(0, 0, 98, 52);
            b.due(0).slotOf(0, 0);
            b.dueSlotWords(c, 99, 51);
        }
    }

    private static void wordsAreInts() {
        int[] ints = {LEAST, MOST, -1, -2, -3, -4, 0, 65536, 1 << 31, 256};
        for (int w = 1; w <= 4; w++) {
            Bench b = bench(w, 12, 1, 6);
            for (int k = 0; k < ints.length; k++) {
                for (int i = 0; i < w; i++) {
                    b.due(0).stageWord(i, ints[(k + i) % ints.length]);
                }
                b.due(0).writeBlock(0, k % 6);
                for (int i = 0; i < w; i++) {
                    b.due(ints[(k + i) % ints.length]).readWord(0, k % 6, i);
                }
            }
        }
    }

    private static void slotsAreZeroAtFirst() {
        for (int w = 1; w <= 4; w++) {
            for (int c = 1; c <= 12; c++) {
                Bench b = bench(w, c, 1, 1);
                for (int slot = 0; slot <= c; slot++) {
                    for (int i = 0; i < w; i++) {
                        b.due(0).slotWord(slot, i);
                    }
                }
            }
        }
    }

    private static void contentsAreTheSlotsWords() {
        Bench b = bench(3, 4, 2, 2);
        b.put(0, 0, 1, 2, 3);
        b.put(0, 1, 3, 2, 1);
        b.put(1, 1, 1, 2, 3);
        b.put(0, 0, 4, 5, 6);
        b.stage(7, 8, 9);
        b.dueSlots(0, 2, 1);
        b.dueSlots(1, NOTMAPPED, 0);
        b.dueContents(0, 0, 4, 5, 6);
        b.dueSlotWords(2, 4, 5, 6);
        b.dueContents(0, 1, 3, 2, 1);
        b.dueSlotWords(1, 3, 2, 1);
        b.dueContents(1, 1, 1, 2, 3);
        b.dueSlotWords(0, 1, 2, 3);
    }

    // Slot 0 is taken for new contents exactly when the last of its blocks has gone.
    private static void usedWhileABlockIsMappedToIt() {
        for (int way = 0; way < 4; way++) {
            Bench b = bench(1, 5, 4, 1);
            b.put(0, 0, 5);
            b.put(1, 0, 5);
            b.put(3, 0, 6);
            giveUp(b, way, 0);
            b.put(2, 0, 7);
            b.due(2).slotOf(2, 0);
            giveUp(b, way, 1);
            b.put(2, 0, 8);
            b.due(0).slotOf(2, 0);
        }
    }

    private static void giveUp(Bench b, int way, int vol) {
        switch (way) {
            case 0 -> b.due(0).trim(vol, 0);
            case 1 -> b.due(0).dropVol(vol);
            case 2 -> b.due(0).cloneVol(3, vol);
            default -> b.put(vol, 0, 6);
        }
    }

    private static void sameContentsSameSlot() {
        Bench b = bench(2, 3, 4, 6);
        for (int vol = 0; vol < 4; vol++) {
            for (int lb = 0; lb < 6; lb++) {
                b.put(vol, lb, (vol + lb) % 3, 7);
            }
        }
        for (int vol = 0; vol < 4; vol++) {
            for (int lb = 0; lb < 6; lb++) {
                b.due((vol + lb) % 3).slotOf(vol, lb);
            }
        }
        b.due(3).chunksUsed();
        b.due(8).refsOf(0, 0);
        Bench last = bench(1, 1, 2, 1);
        last.put(0, 0, 5);
        last.put(0, 0, 6);
        last.put(1, 0, 6);
        last.due(1).slotOf(0, 0);
        last.due(1).slotOf(1, 0);
    }

    private static void oneOtherWordIsOtherContents() {
        for (int w = 1; w <= 4; w++) {
            for (int other = 0; other < w; other++) {
                Bench b = bench(w, 3, 1, 3);
                b.due(0).writeBlock(0, 0);
                b.due(0).stageWord(other, 1);
                b.due(0).writeBlock(0, 1);
                b.due(0).stageWord(other, LEAST);
                b.due(0).writeBlock(0, 2);
                b.dueSlots(0, 0, 1, 2);
                b.due(3).chunksUsed();
                b.due(1).refsOf(0, 1);
            }
        }
        Bench order = bench(4, 6, 1, 6);
        int[][] orders = {{1, 2, 3, 4}, {2, 1, 3, 4}, {1, 3, 2, 4}, {1, 2, 4, 3}, {4, 2, 3, 1}, {4, 3, 2, 1}};
        for (int lb = 0; lb < 6; lb++) {
            order.put(0, lb, orders[lb]);
            order.due(lb).slotOf(0, lb);
        }
    }

    // A lost writeBlock leaves in slot 0, which is not used, the words that slot 1 has.
    private static void unusedTwinIsNotTaken() {
        Bench b = bench(2, 3, 1, 3);
        b.put(0, 0, 9, 2);
        b.put(0, 1, 1, 2);
        b.due(0).trim(0, 0);
        b.stage(1, 3);
        b.crashAfter(2);
        b.due(DOWN).writeBlock(0, 0);
        b.due(0).recover();
        b.dueSlotWords(0, 1, 2);
        b.due(1).refsOf(0, 1);
        b.due(1).chunksUsed();
        b.put(0, 2, 1, 2);
        b.dueSlots(0, NOTMAPPED, 1, 1);
        b.due(8 + 8 + 6 + 1 + 6).writes();
        b.put(0, 1, 1, 2);
        b.due(29).writes();
        b.due(2).refsOf(0, 1);
    }

    private static void dueMostUsed(Bench b) {
        Set<Integer> slots = new HashSet<>();
        for (int vol = 0; vol < b.volumes; vol++) {
            for (int lb = 0; lb < b.blocks; lb++) {
                slots.add(b.slotNow(vol, lb));
            }
        }
        slots.remove(NOTMAPPED);
        b.due(slots.size()).chunksUsed();
        CHECK.due("at most C used", slots.size() <= b.chunks, true);
    }

    private static void atMostCSlotsAreUsed() {
        for (int c = 1; c <= 2; c++) {
            for (int call = 0; call < 7; call++) {
                Bench b = bench(1, c, 2, 2);
                for (int at = 0; at < c; at++) {
                    b.put(0, at, 10 + at);
                }
                b.stage(30);
                callWhenFull(b, call);
                dueMostUsed(b);
            }
        }
    }

    private static void callWhenFull(Bench b, int call) {
        switch (call) {
            case 0 -> b.due(NOROOM).writeBlock(1, 1);
            case 1 -> b.due(0).writeBlock(0, 0);
            case 2 -> b.due(0).cloneVol(0, 1);
            case 3 -> b.due(0).cloneVol(1, 0);
            case 4 -> b.due(0).dropVol(0);
            case 5 -> b.due(0).trim(0, 0);
            default -> b.put(1, 0, 10);
        }
    }

    private static void atMostCSlotsAfterALoss() {
        for (int n = 1; n <= 7; n++) {
            Bench b = bench(1, 2, 1, 2);
            b.put(0, 0, 10);
            b.put(0, 1, 11);
            b.stage(12);
            b.crashAfter(n);
            b.due(DOWN).writeBlock(0, 0);
            b.due(0).recover();
            b.due(2).chunksUsed();
            dueMostUsed(b);
            b.stage(13);
            b.due(0).writeBlock(0, 1);
            b.due(2).chunksUsed();
            b.due(n > 5 ? 2 : 0).slotOf(0, 0);
            b.due(n > 5 ? 0 : 2).slotOf(0, 1);
        }
    }

    private static void stagedIsZeroAtFirst() {
        for (int w = 1; w <= 4; w++) {
            for (int set = 0; set < w; set++) {
                Bench b = bench(w, 2, 1, 1);
                b.due(0).stageWord(set, 5);
                b.due(0).writeBlock(0, 0);
                for (int i = 0; i < w; i++) {
                    b.due(i == set ? 5 : 0).readWord(0, 0, i);
                }
            }
        }
    }

    private static void stagedBelongsToNoVolume() {
        Bench b = bench(2, 3, 2, 2);
        b.put(0, 0, 1, 2);
        b.stage(3, 4);
        b.dueContents(0, 0, 1, 2);
        b.dueSlots(0, 0, NOTMAPPED);
        b.due(1).chunksUsed();
        b.due(0).trim(0, 0);
        b.due(0).cloneVol(0, 1);
        b.due(0).dropVol(0);
        b.due(0).dropVol(1);
        b.due(0).writeBlock(1, 1);
        b.dueContents(1, 1, 3, 4);
        b.due(0).writeBlock(0, 0);
        b.dueContents(0, 0, 3, 4);
    }

    private static void eachWordIsAWrite() {
        for (int w = 1; w <= 4; w++) {
            Bench b = bench(w, 3, 1, 2);
            b.due(0).stageWord(w - 1, 5);
            b.due(0).writes();
            b.due(0).writeBlock(0, 0);
            b.due(w + 6).writes();
        }
    }

    // What has been written when the n-th write is lost shows in the count of writes to recover.
    private static void orderOfAChange() {
        for (Change change : Change.values()) {
            for (int blocks : BLOCK_COUNTS) {
                for (int n = 1; n <= change.allWrites(blocks); n++) {
                    Bench b = change.prepared(blocks);
                    int before = b.writesNow();
                    b.crashAfter(n);
                    change.due(b, DOWN);
                    b.due(before + n - 1).writes();
                    b.due(0).recover();
                    boolean held = n > change.wordWrites() + 4;
                    b.due(before + n - 1 + (held ? change.namedBlocks(blocks) + 1 : 0)).writes();
                }
                Bench b = change.prepared(blocks);
                int before = b.writesNow();
                change.due(b, 0);
                b.due(before + change.allWrites(blocks)).writes();
                change.dueDone(b);
            }
        }
    }

    private static void holdsFromTheFourthWrite() {
        for (Change change : Change.values()) {
            for (int blocks : BLOCK_COUNTS) {
                Bench third = change.prepared(blocks);
                third.crashAfter(change.wordWrites() + 4);
                change.due(third, DOWN);
                third.due(0).recover();
                change.dueNotDone(third);
                Bench fourth = change.prepared(blocks);
                fourth.crashAfter(change.wordWrites() + 5);
                change.due(fourth, DOWN);
                fourth.due(0).recover();
                change.dueDone(fourth);
            }
        }
    }

    private static void holdsWhateverHappens() {
        for (Change change : Change.values()) {
            Bench b = change.prepared(3);
            b.crashAfter(change.wordWrites() + 5);
            change.due(b, DOWN);
            b.crashAfter(1);
            b.due(DOWN).stageWord(0, 77);
            b.due(DOWN).writeBlock(0, 1);
            b.due(DOWN).trim(0, 0);
            b.due(DOWN).cloneVol(1, 0);
            b.due(DOWN).dropVol(0);
            b.crashAfter(2);
            b.due(0).recover();
            change.dueDone(b);
            b.dueSlots(0, 0, NOTMAPPED, 1);
        }
    }

    private static void oneBlockIsNamed() {
        for (int blocks : new int[] {1, 2, 6}) {
            Bench b = bench(1, 3, 2, blocks);
            b.put(0, 0, 5);
            b.due(7).writes();
            b.put(1, blocks - 1, 5);
            b.due(13).writes();
            b.due(0).trim(0, 0);
            b.due(19).writes();
            b.due(NOTMAPPED).slotOf(0, 0);
            b.due(0).slotOf(1, blocks - 1);
        }
    }

    private static void allBlocksAreNamed() {
        for (int blocks = 1; blocks <= 6; blocks++) {
            Bench b = bench(1, 6, 2, blocks);
            for (int lb = 0; lb < blocks; lb++) {
                b.put(0, lb, 5 + lb);
            }
            b.due(0).cloneVol(0, 1);
            b.due(7 * blocks + 5 + blocks).writes();
            for (int lb = 0; lb < blocks; lb++) {
                b.due(lb).slotOf(1, lb);
            }
            b.due(0).dropVol(1);
            b.due(7 * blocks + 2 * (5 + blocks)).writes();
            for (int lb = 0; lb < blocks; lb++) {
                b.due(NOTMAPPED).slotOf(1, lb);
            }
        }
    }

    private static void blocksMappedSoAreNamed() {
        for (int blocks = 1; blocks <= 6; blocks++) {
            Bench b = bench(1, 3, 2, blocks);
            b.due(0).dropVol(1);
            b.due(5 + blocks).writes();
            b.due(0).cloneVol(0, 1);
            b.due(2 * (5 + blocks)).writes();
            b.put(0, 0, 5);
            b.due(0).cloneVol(0, 1);
            b.due(0).cloneVol(0, 1);
            b.due(7 + 4 * (5 + blocks)).writes();
            b.crashAfter(4 + blocks);
            b.due(DOWN).cloneVol(0, 1);
            b.due(0).recover();
            b.due(7 + 4 * (5 + blocks) + 3 + blocks + blocks + 1).writes();
        }
    }

    private static void theNthWriteDoesNotHappen() {
        for (Change change : Change.values()) {
            int all = change.allWrites(3);
            for (int n : new int[] {1, 2, all - 1, all}) {
                Bench b = change.prepared(3);
                int before = b.writesNow();
                b.crashAfter(n);
                change.due(b, DOWN);
                b.dueDown(true);
                b.due(before + n - 1).writes();
            }
            Bench b = change.prepared(3);
            int before = b.writesNow();
            b.crashAfter(all + 1);
            change.due(b, 0);
            b.dueDown(false);
            b.due(before + all).writes();
            b.due(DOWN).dropVol(0);
            b.due(before + all).writes();
        }
    }

    private static void writesOfSeveralCallsCount() {
        Bench b = bench(1, 3, 2, 2);
        b.crashAfter(7 + 6 + 7 + 6 + 1);
        b.put(0, 0, 5);
        b.due(0).writeBlock(0, 0);
        b.due(5).readWord(0, 0, 0);
        b.due(BADARG).writeBlock(0, 2);
        b.due(NOTMAPPED).trim(0, 1);
        b.due(0).writeBlock(0, 1);
        b.due(0).recover();
        b.due(0).cloneVol(0, 1);
        b.dueDown(false);
        b.due(0).trim(1, 1);
        b.due(26).writes();
        b.dueDown(false);
        b.due(DOWN).trim(1, 0);
        b.due(26).writes();
        b.dueDown(true);
    }

    private static void noWriteAfterTheLoss() {
        Bench b = bench(4, 3, 1, 6);
        b.stage(1, 2, 3, 4);
        b.crashAfter(2);
        b.due(DOWN).writeBlock(0, 0);
        b.dueDown(true);
        b.due(1).writes();
        b.due(0).recover();
        b.due(1).writes();
        b.dueSlotWords(0, 1, 0, 0, 0);
        b.dueSlots(0, NOTMAPPED);
        b.crashAfter(1);
        b.due(DOWN).dropVol(0);
        b.due(DOWN).dropVol(0);
        b.dueDown(true);
        b.due(1).writes();
    }

    private static void nothingIsArmedAfterTheLoss() {
        for (int n = 1; n <= 7; n++) {
            Bench b = bench(1, 3, 1, 2);
            b.stage(5);
            b.crashAfter(n);
            b.due(DOWN).writeBlock(0, 0);
            b.due(0).recover();
            for (int i = 0; i < 20; i++) {
                b.put(0, 1, 10 + i);
                b.dueDown(false);
            }
        }
    }

    private static void theCallAnswersDown() {
        for (Change change : Change.values()) {
            for (int n = 1; n <= change.allWrites(3); n++) {
                Bench b = change.prepared(3);
                b.crashAfter(n);
                change.due(b, DOWN);
            }
        }
    }

    private static void heldChangeIsFoundDone() {
        for (Change change : Change.values()) {
            for (int blocks : BLOCK_COUNTS) {
                for (int n = change.wordWrites() + 5; n <= change.allWrites(blocks); n++) {
                    Bench b = change.prepared(blocks);
                    b.crashAfter(n);
                    change.due(b, DOWN);
                    b.due(0).recover();
                    change.dueDone(b);
                    b.dueSlotWords(1, 3, 4);
                }
            }
        }
    }

    private static void otherChangeIsNotDone() {
        for (Change change : Change.values()) {
            for (int blocks : BLOCK_COUNTS) {
                for (int n = 1; n <= change.wordWrites() + 4; n++) {
                    Bench b = change.prepared(blocks);
                    b.crashAfter(n);
                    change.due(b, DOWN);
                    b.due(0).recover();
                    change.dueNotDone(b);
                    b.dueSlotWords(1, 3, 4);
                }
            }
        }
    }

    // An intent that has been taken back, by its call or by recover, is not mixed with the next one.
    private static void earlierIntentIsNotDoneAgain() {
        for (Change change : Change.values()) {
            for (int n = 1; n <= 4; n++) {
                for (boolean lost : new boolean[] {false, true}) {
                    Bench b = change.prepared(3);
                    b.crashAfter(lost ? change.wordWrites() + 6 : 0);
                    change.due(b, lost ? DOWN : 0);
                    b.due(0).recover();
                    b.put(1, 0, 21, 22);
                    b.put(1, 1, 1, 2);
                    b.put(1, 2, 1, 2);
                    int before = b.writesNow();
                    b.crashAfter(n);
                    b.due(DOWN).dropVol(0);
                    b.due(0).recover();
                    b.due(before + n - 1).writes();
                    b.dueContents(1, 0, 21, 22);
                    b.dueSlots(0, 0, NOTMAPPED, 1);
                    b.due(0).slotOf(1, 1);
                    b.due(0).slotOf(1, 2);
                }
            }
        }
    }

    private static void writtenWordsStay() {
        for (int w = 1; w <= 4; w++) {
            for (int n = 1; n <= w + 4; n++) {
                Bench b = bench(w, 2, 1, 2);
                b.due(0).stageWord(0, 9);
                b.due(0).writeBlock(0, 0);
                for (int i = 0; i < w; i++) {
                    b.due(0).stageWord(i, 10 + i);
                }
                b.crashAfter(n);
                b.due(DOWN).writeBlock(0, 0);
                b.due(0).recover();
                b.due(0).slotOf(0, 0);
                for (int i = 0; i < w; i++) {
                    b.due(i < n - 1 ? 10 + i : 0).slotWord(1, i);
                }
            }
        }
    }

    private static Bench downBench(int n) {
        Bench b = bench(1, 3, 2, 2);
        b.put(0, 0, 5);
        b.put(0, 1, 6);
        b.stage(7);
        b.crashAfter(n);
        b.due(DOWN).cloneVol(0, 1);
        return b;
    }

    private static void downFormat() {
        for (int n = 1; n <= 7; n++) {
            Bench b = downBench(n);
            b.due(0).format();
            b.dueDown(false);
            b.due(13 + n).writes();
            b.due(0).chunksUsed();
            b.dueSlots(0, NOTMAPPED, NOTMAPPED);
            b.dueSlots(1, NOTMAPPED, NOTMAPPED);
            b.dueSlotWords(0, 0);
            b.dueSlotWords(1, 0);
        }
    }

    private static void downRecover() {
        for (int n = 1; n <= 7; n++) {
            Bench b = downBench(n);
            b.due(0).recover();
            b.dueDown(false);
            b.due(13 + n + (n > 4 ? 3 : 0)).writes();
            b.dueSlots(0, 0, 1);
            b.dueSlots(1, n > 4 ? 0 : NOTMAPPED, n > 4 ? 1 : NOTMAPPED);
        }
    }

    private static void downDownAndWrites() {
        for (int n = 1; n <= 7; n++) {
            Bench b = downBench(n);
            b.dueDown(true);
            b.due(13 + n).writes();
            b.dueDown(true);
            b.due(13 + n).writes();
        }
    }

    private static void downCrashAfter() {
        for (int armed : new int[] {1, 2, 9, MOST, 0, -1, LEAST}) {
            Bench b = downBench(6);
            b.crashAfter(armed);
            b.dueDown(true);
            b.due(19).writes();
            b.due(0).recover();
            b.due(22).writes();
            b.dueSlots(1, 0, 1);
            b.due(0).dropVol(0);
            b.due(0).dropVol(1);
            b.dueDown(false);
        }
        Bench formatted = downBench(6);
        formatted.crashAfter(1);
        formatted.due(0).format();
        formatted.due(0).dropVol(0);
    }

    private static void downOtherCalls() {
        for (int n : new int[] {1, 5, 7}) {
            Bench b = downBench(n);
            for (int arg : new int[] {0, 1, -1, 2, LEAST, MOST}) {
                b.due(DOWN).stageWord(arg, 9);
                b.due(DOWN).writeBlock(arg, 0);
                b.due(DOWN).writeBlock(0, arg);
                b.due(DOWN).trim(arg, 0);
                b.due(DOWN).trim(1, arg);
                b.due(DOWN).cloneVol(arg, 0);
                b.due(DOWN).cloneVol(0, arg);
                b.due(DOWN).dropVol(arg);
                b.due(DOWN).chunksUsed();
                b.due(DOWN).refsOf(arg, 0);
                b.due(DOWN).refsOf(0, arg);
                b.due(DOWN).slotOf(arg, 0);
                b.due(DOWN).slotOf(0, arg);
                b.due(DOWN).slotWord(arg, 0);
                b.due(DOWN).slotWord(0, arg);
            }
        }
    }

    private static void downReadWord() {
        for (int n : new int[] {1, 5, 7}) {
            Bench b = downBench(n);
            b.due(DOWN).readWord(0, 0, 0);
            for (int arg : new int[] {0, 1, -1, 2, LEAST, MOST}) {
                b.due(DOWN).readWord(arg, 0, 0);
                b.due(DOWN).readWord(0, arg, 0);
                b.due(DOWN).readWord(0, 0, arg);
            }
        }
    }

    private static void downChangesNothing() {
        for (int n = 1; n <= 7; n++) {
            Bench quiet = downBench(n);
            quiet.due(0).recover();
            Bench b = downBench(n);
            b.due(DOWN).stageWord(0, 9);
            b.due(DOWN).writeBlock(0, 0);
            b.due(DOWN).writeBlock(1, 1);
            b.due(DOWN).readWord(0, 0, 0);
            b.due(DOWN).trim(0, 0);
            b.due(DOWN).cloneVol(1, 0);
            b.due(DOWN).dropVol(0);
            b.due(DOWN).chunksUsed();
            b.due(DOWN).refsOf(0, 0);
            b.due(DOWN).slotOf(0, 0);
            b.due(DOWN).slotWord(0, 0);
            b.dueDown(true);
            b.due(13 + n).writes();
            b.due(0).recover();
            b.dueState(quiet.state());
            b.due(0).writeBlock(0, 0);
            b.due(0).readWord(0, 0, 0);
        }
    }

    private interface Call {
        void on(Bench b);
    }

    private static void refusedCallsChangeNothing() {
        for (int i : outside(2)) {
            dueNothingChanged(b -> b.due(BADARG).stageWord(i, 77));
        }
        dueNothingChanged(b -> b.due(NOROOM).writeBlock(1, 0));
        dueNothingChanged(b -> b.due(NOROOM).writeBlock(0, 1));
        dueNothingChanged(b -> b.due(NOTMAPPED).trim(1, 0));
        dueNothingChanged(b -> b.due(NOTMAPPED).slotOf(1, 0));
        for (int[] pair : noBlocks(2, 2)) {
            dueNothingChanged(b -> b.due(BADARG).writeBlock(pair[0], pair[1]));
            dueNothingChanged(b -> b.due(BADARG).trim(pair[0], pair[1]));
            dueNothingChanged(b -> b.due(BADARG).slotOf(pair[0], pair[1]));
        }
        for (int vol : outside(2)) {
            dueNothingChanged(b -> b.due(BADARG).cloneVol(vol, 0));
            dueNothingChanged(b -> b.due(BADARG).cloneVol(0, vol));
            dueNothingChanged(b -> b.due(BADARG).cloneVol(vol, vol));
            dueNothingChanged(b -> b.due(BADARG).dropVol(vol));
        }
    }

    // Full, with new contents staged and a loss armed: both show in what the next writeBlock does.
    private static void dueNothingChanged(Call refused) {
        Bench b = bench(2, 2, 2, 2);
        b.put(0, 0, 1, 2);
        b.put(0, 1, 3, 4);
        b.put(1, 1, 3, 4);
        b.stage(5, 6);
        b.crashAfter(9);
        String before = b.state();
        refused.on(b);
        b.dueState(before);
        int writes = b.writesNow();
        b.due(0).writeBlock(0, 0);
        b.dueContents(0, 0, 5, 6);
        b.dueSlots(0, 2, 1);
        b.due(DOWN).dropVol(0);
        b.due(writes + 8).writes();
        b.due(0).recover();
        b.due(writes + 8).writes();
    }

    // These four take the class's own constants, so that what they are called stands for what they tell.
    private static void badargOutOfRange() {
        for (int number = -1; number <= 2; number++) {
            int due = number == 0 || number == 1 ? 0 : SharedVolumes.BADARG;
            Bench b = bench(2, 2, 2, 2);
            b.put(0, 0, 1, 2);
            b.put(0, 1, 1, 2);
            b.due(0).cloneVol(0, 1);
            b.due(due).slotOf(number, 1);
            b.due(due).slotOf(1, number);
            b.due(due).cloneVol(number, 0);
            b.due(due).cloneVol(0, number);
            b.due(due).trim(number, 0);
            b.due(due).trim(1, number);
            b.due(due).dropVol(number);
            b.due(due).stageWord(number, 5);
            b.due(due).writeBlock(number, 1);
            b.due(due).writeBlock(1, number);
        }
        Bench codes = bench(1, 1, 1, 1);
        codes.due(-1).dropVol(1);
    }

    private static void noroomAboveC() {
        for (int c = 1; c <= 12; c++) {
            Bench b = bench(1, c, 4, 6);
            for (int at = 0; at < 24; at++) {
                b.due(0).stageWord(0, at);
                b.due(at < c ? 0 : SharedVolumes.NOROOM).writeBlock(at / 6, at % 6);
            }
            b.due(-2).writeBlock(3, 5);
        }
    }

    private static void notmappedWhenUnmapped() {
        Bench b = bench(1, 2, 2, 2);
        b.put(1, 0, 5);
        for (int at = 0; at < 4; at++) {
            int due = at == 2 ? 0 : SharedVolumes.NOTMAPPED;
            b.due(due).slotOf(at / 2, at % 2);
            b.due(due).trim(at / 2, at % 2);
        }
        b.due(-3).slotOf(1, 0);
        b.due(-3).trim(1, 0);
    }

    private static void downWithoutPower() {
        Bench b = bench(1, 2, 1, 1);
        b.crashAfter(1);
        b.due(0).stageWord(0, 5);
        b.due(0).chunksUsed();
        b.due(SharedVolumes.DOWN).writeBlock(0, 0);
        b.due(SharedVolumes.DOWN).stageWord(0, 5);
        b.due(-4).chunksUsed();
        b.due(0).recover();
        b.due(0).chunksUsed();
        b.due(0).writeBlock(0, 0);
    }
}
