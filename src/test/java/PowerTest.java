/** The sentences of promises 13 (crashAfter), 14 (down), 15 (recover) and 16 (writes). */
public final class PowerTest extends Sentences {
    public static void main(String[] args) {
        CHECK.sentence("13: 'A loss is armed with n, writes being n'", PowerTest::armsWithN);
        CHECK.sentence("13: 'whatever was armed before'", PowerTest::armsAnew);
        CHECK.sentence("13: 'nothing is armed then when n is below 1'", PowerTest::disarms);
        CHECK.sentence("13: 'After 30 calls that armed one'", PowerTest::thirtyLossesMayBeArmed);
        CHECK.sentence("13: 'that armed one', also if no loss came of it", PowerTest::armedOnesCountWithoutLoss);
        CHECK.sentence("13: 'that armed one', not those with n below 1", PowerTest::disarmingDoesNotCount);
        CHECK.sentence("13: 'that armed one', not those while down", PowerTest::callsWhileDownDoNotCount);
        CHECK.sentence("13: 'since the object was made', format and recover do not matter", PowerTest::countIsNeverReset);
        CHECK.sentence("13: 'calls with an n above 0 do nothing', what was armed stays", PowerTest::thirtiethStaysArmed);
        CHECK.sentence("13: 'calls with an n above 0', others still take back", PowerTest::disarmsAfterThirty);
        CHECK.sentence("14: 'Whether the power is down'", PowerTest::down);
        CHECK.sentence("15: 'The power is not down any more'", PowerTest::recoverBringsPower);
        CHECK.sentence("15: 'the staged block is 0 in all words'", PowerTest::recoverClearsStaged);
        CHECK.sentence("15: 'its blocks are written once more'", PowerTest::recoverWritesBlocks);
        CHECK.sentence("15: 'When an intent that holds', not for any other", PowerTest::recoverOfNoIntent);
        CHECK.sentence("15: 'and it is taken back'", PowerTest::recoverTakesBack);
        CHECK.sentence("15: 'When the power was not down, nothing happens'", PowerTest::recoverWithPower);
        CHECK.sentence("15: 'Answers 0'", PowerTest::recoverAnswersZero);
        CHECK.sentence("16: 'How many writes happened', each kind", PowerTest::writesOfEachCall);
        CHECK.sentence("16: 'happened', not the lost one", PowerTest::lostWriteDoesNotCount);
        CHECK.sentence("16: 'since the object was made'", PowerTest::writesAreNeverReset);
        CHECK.sentence("16: calls that write nothing", PowerTest::noWritesOfOtherCalls);
        CHECK.end();
    }

    // With one block a volume, each dropVol makes six writes.
    private static void armsWithN() {
        for (int n = 1; n <= 25; n++) {
            Bench b = bench(1, 3, 1, 1);
            b.crashAfter(n);
            b.dueDown(false);
            for (int made = 6; made < n; made += 6) {
                b.due(0).dropVol(0);
                b.due(made).writes();
                b.dueDown(false);
            }
            b.due(DOWN).dropVol(0);
            b.dueDown(true);
            b.due(n - 1).writes();
        }
        Bench far = bench(1, 3, 1, 1);
        far.crashAfter(MOST);
        for (int i = 0; i < 50; i++) {
            far.due(0).dropVol(0);
        }
        far.dueDown(false);
    }

    private static void armsAnew() {
        for (int first : new int[] {1, 2, 5, 50, MOST}) {
            for (int second : new int[] {1, 3, 7}) {
                Bench b = bench(1, 3, 1, 2);
                b.crashAfter(first);
                b.crashAfter(second);
                b.due(DOWN).dropVol(0);
                b.due(second - 1).writes();
            }
            Bench b = bench(1, 3, 1, 2);
            b.crashAfter(first);
            b.crashAfter(8);
            b.due(0).dropVol(0);
            b.due(DOWN).dropVol(0);
            b.due(7).writes();
        }
        Bench b = bench(1, 3, 1, 2);
        b.crashAfter(9);
        b.due(0).dropVol(0);
        b.crashAfter(9);
        b.due(0).dropVol(0);
        b.due(DOWN).dropVol(0);
        b.due(15).writes();
    }

    private static void disarms() {
        for (int n : new int[] {0, -1, -2, LEAST, LEAST + 1, 3 << 30}) {
            Bench b = bench(1, 3, 1, 2);
            b.crashAfter(n);
            b.due(0).dropVol(0);
            b.crashAfter(1);
            b.crashAfter(n);
            for (int i = 0; i < 20; i++) {
                b.due(0).dropVol(0);
            }
            b.crashAfter(9);
            b.due(0).dropVol(0);
            b.crashAfter(n);
            b.due(0).dropVol(0);
            b.dueDown(false);
            b.crashAfter(1);
            b.due(DOWN).dropVol(0);
        }
    }

    private static void loseAndRecover(Bench b) {
        b.crashAfter(1);
        b.due(DOWN).dropVol(0);
        b.due(0).recover();
    }

    private static void dueNoMoreLosses(Bench b) {
        for (int n : new int[] {1, 2, MOST}) {
            b.crashAfter(n);
            b.due(0).dropVol(0);
            b.dueDown(false);
        }
    }

    private static void thirtyLossesMayBeArmed() {
        Bench b = bench(1, 3, 1, 2);
        for (int i = 0; i < 30; i++) {
            loseAndRecover(b);
        }
        b.due(0).writes();
        dueNoMoreLosses(b);
        b.due(21).writes();
    }

    private static void armedOnesCountWithoutLoss() {
        Bench b = bench(1, 3, 1, 2);
        for (int i = 0; i < 10; i++) {
            b.crashAfter(MOST);
            b.crashAfter(1);
            b.crashAfter(0);
        }
        for (int i = 0; i < 9; i++) {
            b.crashAfter(8);
            b.due(0).dropVol(0);
        }
        loseAndRecover(b);
        dueNoMoreLosses(b);
    }

    private static void disarmingDoesNotCount() {
        Bench b = bench(1, 3, 1, 2);
        for (int i = 0; i < 29; i++) {
            b.crashAfter(0);
            b.crashAfter(-1);
            b.crashAfter(LEAST);
            loseAndRecover(b);
        }
        b.crashAfter(0);
        loseAndRecover(b);
        dueNoMoreLosses(b);
    }

    private static void callsWhileDownDoNotCount() {
        Bench b = bench(1, 3, 1, 2);
        for (int i = 0; i < 30; i++) {
            b.crashAfter(1);
            b.due(DOWN).dropVol(0);
            b.crashAfter(1);
            b.crashAfter(9);
            b.due(0).recover();
        }
        dueNoMoreLosses(b);
    }

    private static void countIsNeverReset() {
        Bench b = bench(1, 3, 1, 2);
        for (int i = 0; i < 15; i++) {
            b.crashAfter(1);
            b.due(0).format();
            b.crashAfter(1);
            b.due(DOWN).dropVol(0);
            if (i % 2 == 0) {
                b.due(0).format();
            } else {
                b.due(0).recover();
            }
        }
        dueNoMoreLosses(b);
        b.due(0).format();
        dueNoMoreLosses(b);
        b.due(0).recover();
        dueNoMoreLosses(b);
    }

    private static Bench thirtiethArmedWith(int n) {
        Bench b = bench(1, 3, 1, 2);
        for (int i = 0; i < 29; i++) {
            b.crashAfter(1);
        }
        b.crashAfter(n);
        return b;
    }

    private static void thirtiethStaysArmed() {
        for (int later : new int[] {1, 5, 50, MOST}) {
            Bench b = thirtiethArmedWith(9);
            b.crashAfter(later);
            b.due(0).dropVol(0);
            b.crashAfter(later);
            b.due(DOWN).dropVol(0);
            b.due(8).writes();
            b.due(0).recover();
            dueNoMoreLosses(b);
        }
    }

    private static void disarmsAfterThirty() {
        for (int n : new int[] {0, -1, LEAST}) {
            Bench b = thirtiethArmedWith(1);
            b.crashAfter(n);
            b.due(0).dropVol(0);
            dueNoMoreLosses(b);
        }
    }

    private static void down() {
        Bench b = bench(1, 3, 1, 2);
        b.dueDown(false);
        b.put(0, 0, 5);
        b.dueDown(false);
        b.crashAfter(1);
        b.dueDown(false);
        b.due(BADARG).trim(1, 0);
        b.due(0).writeBlock(0, 0);
        b.dueDown(false);
        b.due(DOWN).trim(0, 0);
        b.dueDown(true);
        b.due(DOWN).trim(0, 0);
        b.crashAfter(0);
        b.dueDown(true);
        b.due(0).recover();
        b.dueDown(false);
        b.crashAfter(6);
        b.due(DOWN).trim(0, 0);
        b.dueDown(true);
        b.due(0).format();
        b.dueDown(false);
    }

    private static void recoverBringsPower() {
        for (Change change : Change.values()) {
            for (int n = 1; n <= change.allWrites(3); n++) {
                Bench b = change.prepared(3);
                b.crashAfter(n);
                change.due(b, DOWN);
                b.dueDown(true);
                b.due(0).recover();
                b.dueDown(false);
                b.dueContents(0, 0, 1, 2);
                b.due(0).dropVol(0);
                b.due(NOTMAPPED).slotOf(0, 0);
            }
        }
    }

    private static void recoverClearsStaged() {
        for (int w = 1; w <= 4; w++) {
            for (int n = 1; n <= 6; n++) {
                Bench b = bench(w, 3, 1, 2);
                for (int i = 0; i < w; i++) {
                    b.due(0).stageWord(i, 5 + i);
                }
                b.crashAfter(n);
                b.due(DOWN).dropVol(0);
                b.due(0).recover();
                b.due(0).writeBlock(0, 1);
                for (int i = 0; i < w; i++) {
                    b.due(0).readWord(0, 1, i);
                }
            }
        }
    }

    private static void recoverWritesBlocks() {
        for (Change change : Change.values()) {
            for (int blocks : new int[] {1, 2, 6}) {
                for (int n = change.wordWrites() + 5; n <= change.allWrites(blocks); n++) {
                    Bench b = change.prepared(blocks);
                    int before = b.writesNow();
                    b.crashAfter(n);
                    change.due(b, DOWN);
                    b.due(0).recover();
                    b.due(before + n - 1 + change.namedBlocks(blocks) + 1).writes();
                    change.dueDone(b);
                }
            }
        }
    }

    private static void recoverOfNoIntent() {
        for (Change change : Change.values()) {
            for (int n = 1; n <= change.wordWrites() + 4; n++) {
                Bench b = change.prepared(3);
                int before = b.writesNow();
                b.crashAfter(n);
                change.due(b, DOWN);
                b.due(0).recover();
                b.due(before + n - 1).writes();
                change.dueNotDone(b);
            }
        }
    }

    // A second loss, before another intent holds, shows whether the first one was taken back.
    private static void recoverTakesBack() {
        for (Change change : Change.values()) {
            for (int n = 1; n <= 4; n++) {
                Bench b = change.prepared(3);
                b.crashAfter(change.wordWrites() + 5);
                change.due(b, DOWN);
                b.due(0).recover();
                int before = b.writesNow();
                b.crashAfter(n);
                b.due(DOWN).trim(0, 0);
                b.due(0).recover();
                b.due(before + n - 1).writes();
                change.dueDone(b);
                b.dueSlots(0, 0, NOTMAPPED, 1);
            }
        }
    }

    private static void recoverWithPower() {
        Bench b = bench(2, 3, 2, 2);
        b.due(0).recover();
        b.put(0, 0, 1, 2);
        b.due(0).cloneVol(0, 1);
        b.due(0).trim(1, 0);
        b.stage(5, 6);
        b.crashAfter(9);
        String before = b.state();
        b.due(0).recover();
        b.due(0).recover();
        b.dueState(before);
        int writes = b.writesNow();
        b.due(0).writeBlock(1, 1);
        b.dueContents(1, 1, 5, 6);
        b.due(DOWN).trim(1, 1);
        b.due(writes + 8).writes();
        b.due(0).recover();
        b.stage(7, 8);
        b.due(0).recover();
        b.due(0).writeBlock(1, 1);
        b.dueContents(1, 1, 7, 8);
    }

    private static void recoverAnswersZero() {
        Bench b = bench(1, 3, 1, 2);
        b.due(0).recover();
        for (int n = 1; n <= 7; n++) {
            b.crashAfter(n);
            b.due(DOWN).dropVol(0);
            b.due(0).recover();
            b.due(0).recover();
        }
    }

    private static void writesOfEachCall() {
        for (int w = 1; w <= 4; w++) {
            for (int blocks = 1; blocks <= 6; blocks++) {
                Bench b = bench(w, 3, 2, blocks);
                b.due(0).writes();
                b.due(0).writeBlock(0, 0);
                b.due(w + 6).writes();
                b.due(0).writeBlock(1, 0);
                b.due(w + 12).writes();
                b.due(0).trim(0, 0);
                b.due(w + 18).writes();
                b.due(0).cloneVol(1, 0);
                b.due(w + 23 + blocks).writes();
                b.due(0).dropVol(0);
                b.due(w + 28 + 2 * blocks).writes();
            }
        }
    }

    private static void lostWriteDoesNotCount() {
        for (int n = 1; n <= 7; n++) {
            Bench b = bench(1, 3, 1, 2);
            b.put(0, 0, 5);
            b.crashAfter(n);
            b.due(DOWN).dropVol(0);
            b.due(7 + n - 1).writes();
            b.due(7 + n - 1).writes();
            b.due(0).recover();
            b.due(7 + n - 1 + (n > 4 ? 3 : 0)).writes();
        }
    }

    private static void writesAreNeverReset() {
        Bench b = bench(1, 3, 1, 2);
        b.put(0, 0, 5);
        b.due(0).format();
        b.due(7).writes();
        b.put(0, 0, 6);
        b.due(14).writes();
        b.crashAfter(2);
        b.due(DOWN).dropVol(0);
        b.due(15).writes();
        b.due(0).recover();
        b.due(15).writes();
        b.crashAfter(2);
        b.due(DOWN).dropVol(0);
        b.due(0).format();
        b.due(16).writes();
    }

    private static void noWritesOfOtherCalls() {
        Bench b = bench(1, 1, 2, 2);
        b.put(0, 0, 5);
        b.crashAfter(1);
        b.due(0).writeBlock(0, 0);
        b.stage(6);
        b.due(NOROOM).writeBlock(0, 1);
        b.due(BADARG).writeBlock(2, 0);
        b.due(NOTMAPPED).trim(0, 1);
        b.due(BADARG).trim(0, 2);
        b.due(BADARG).cloneVol(0, 2);
        b.due(BADARG).dropVol(2);
        b.due(5).readWord(0, 0, 0);
        b.due(1).chunksUsed();
        b.due(1).refsOf(0, 0);
        b.due(0).slotOf(0, 0);
        b.due(5).slotWord(0, 0);
        b.due(0).recover();
        b.dueDown(false);
        b.due(7).writes();
        b.due(0).format();
        b.due(7).writes();
    }
}
