/** Each promise of the document by itself: ordinary inputs, edges and wrong inputs. */
public final class PromisesTest {
    private static final int BADARG = -1;
    private static final int NOROOM = -2;
    private static final int NOTMAPPED = -3;
    private static final int DOWN = -4;
    private static final int LEAST = Integer.MIN_VALUE;
    private static final int MOST = Integer.MAX_VALUE;

    private static final Check CHECK = new Check();

    public static void main(String[] args) {
        newObjectIsEmpty();
        newObjectBoundsItsSizes();
        newObjectBoundsItsContents();
        formatForgetsAllButTheCounts();
        formatEndsALoss();
        stageWord();
        writeBlockStoresAndShares();
        writeBlockRefuses();
        writeBlockKnowsRoom();
        writeBlockTakesTheLowestUnusedSlot();
        readWord();
        trim();
        cloneVol();
        dropVol();
        chunksUsed();
        refsOf();
        slotOf();
        slotWord();
        crashAfterArms();
        crashAfterEndsAtThirty();
        downAnswers();
        downCallsChangeNothing();
        recoverOfWriteBlock();
        recoverOfTrim();
        recoverOfCloneVol();
        recoverOfDropVol();
        recoverWithPower();
        writes();
        CHECK.end();
    }

    private static void due(String call, int got, int want) {
        CHECK.due(call, got, want);
    }

    private static void due(String call, boolean got, boolean want) {
        CHECK.due(call, got, want);
    }

    private static void stage(SharedVolumes x, int... words) {
        for (int i = 0; i < words.length; i++) {
            due("stageWord", x.stageWord(i, words[i]), 0);
        }
    }

    private static void put(SharedVolumes x, int vol, int lb, int... words) {
        stage(x, words);
        due("writeBlock(" + vol + ", " + lb + ")", x.writeBlock(vol, lb), 0);
    }

    private static void dueSlots(SharedVolumes x, int vol, int... slots) {
        for (int lb = 0; lb < slots.length; lb++) {
            due("slotOf(" + vol + ", " + lb + ")", x.slotOf(vol, lb), slots[lb]);
        }
    }

    private static void dueSlotWords(SharedVolumes x, int slot, int... words) {
        for (int i = 0; i < words.length; i++) {
            due("slotWord(" + slot + ", " + i + ")", x.slotWord(slot, i), words[i]);
        }
    }

    private static void newObjectIsEmpty() {
        CHECK.at("1, a new object is empty");
        SharedVolumes x = new SharedVolumes(4, 12, 4, 6);
        due("down()", x.down(), false);
        due("writes()", x.writes(), 0);
        due("chunksUsed()", x.chunksUsed(), 0);
        for (int vol = 0; vol < 4; vol++) {
            dueSlots(x, vol, NOTMAPPED, NOTMAPPED, NOTMAPPED, NOTMAPPED, NOTMAPPED, NOTMAPPED);
        }
        for (int slot = 0; slot <= 12; slot++) {
            dueSlotWords(x, slot, 0, 0, 0, 0);
        }
        put(x, 0, 0);
        dueSlotWords(x, 0, 0, 0, 0, 0);
        due("writes()", x.writes(), 10);
    }

    private static void newObjectBoundsItsSizes() {
        CHECK.at("1, sizes below 1");
        for (int size : new int[] {1, 0, -1, LEAST}) {
            dueSizes(new SharedVolumes(size, 5, 3, 3), 1, 3, 3);
            dueSizes(new SharedVolumes(2, size, 3, 3), 2, 3, 3);
            dueSizes(new SharedVolumes(2, 5, size, 3), 2, 1, 3);
            dueSizes(new SharedVolumes(2, 5, 3, size), 2, 3, 1);
        }
        CHECK.at("1, sizes above the most");
        for (int more : new int[] {0, 1, 7, 1000000}) {
            dueSizes(new SharedVolumes(4 + more, 12, 3, 3), 4, 3, 3);
            dueSizes(new SharedVolumes(2, 12 + more, 3, 3), 2, 3, 3);
            dueSizes(new SharedVolumes(2, 12, 4 + more, 3), 2, 4, 3);
            dueSizes(new SharedVolumes(2, 12, 3, 6 + more), 2, 3, 6);
        }
        dueSizes(new SharedVolumes(MOST, MOST, MOST, MOST), 4, 4, 6);
        CHECK.at("1, sizes between");
        dueSizes(new SharedVolumes(3, 11, 3, 5), 3, 3, 5);
    }

    private static void dueSizes(SharedVolumes x, int words, int volumes, int blocks) {
        due("stageWord of the last", x.stageWord(words - 1, 0), 0);
        due("stageWord past it", x.stageWord(words, 0), BADARG);
        due("writeBlock of the last", x.writeBlock(volumes - 1, blocks - 1), 0);
        due("writeBlock past the volumes", x.writeBlock(volumes, 0), BADARG);
        due("writeBlock past the blocks", x.writeBlock(0, blocks), BADARG);
        due("writes()", x.writes(), words + 6);
    }

    private static void newObjectBoundsItsContents() {
        CHECK.at("1, how many contents");
        dueContents(new SharedVolumes(1, LEAST, 4, 6), 1);
        dueContents(new SharedVolumes(1, 0, 4, 6), 1);
        dueContents(new SharedVolumes(1, 1, 4, 6), 1);
        dueContents(new SharedVolumes(1, 2, 4, 6), 2);
        dueContents(new SharedVolumes(1, 11, 4, 6), 11);
        dueContents(new SharedVolumes(1, 12, 4, 6), 12);
        dueContents(new SharedVolumes(1, 13, 4, 6), 12);
        dueContents(new SharedVolumes(4, MOST, 4, 6), 12);
    }

    private static void dueContents(SharedVolumes x, int contents) {
        for (int at = 0; at < contents; at++) {
            put(x, at / 6, at % 6, 100 + at);
        }
        stage(x, 99);
        due("writeBlock of one more", x.writeBlock(3, 5), NOROOM);
        due("chunksUsed()", x.chunksUsed(), contents);
        put(x, 0, 0, 99);
        dueSlots(x, 0, contents);
        dueSlotWords(x, contents, 99);
        due("slotWord past the slots", x.slotWord(contents + 1, 0), 0);
    }

    private static void formatForgetsAllButTheCounts() {
        CHECK.at("2, format");
        SharedVolumes x = new SharedVolumes(2, 3, 2, 2);
        put(x, 0, 0, 1, 2);
        put(x, 0, 1, 3, 4);
        put(x, 1, 1, 5, 6);
        due("writes()", x.writes(), 24);
        x.crashAfter(1);
        due("format()", x.format(), 0);
        due("writes()", x.writes(), 24);
        due("down()", x.down(), false);
        due("chunksUsed()", x.chunksUsed(), 0);
        for (int vol = 0; vol < 2; vol++) {
            dueSlots(x, vol, NOTMAPPED, NOTMAPPED);
        }
        for (int slot = 0; slot <= 3; slot++) {
            dueSlotWords(x, slot, 0, 0);
        }
        put(x, 1, 0);
        due("readWord(1, 0, 0)", x.readWord(1, 0, 0), 0);
        due("readWord(1, 0, 1)", x.readWord(1, 0, 1), 0);
        due("writes()", x.writes(), 32);
    }

    private static void formatEndsALoss() {
        CHECK.at("2, format while the power is down");
        SharedVolumes x = new SharedVolumes(1, 3, 2, 2);
        put(x, 0, 0, 5);
        put(x, 0, 1, 6);
        x.crashAfter(5);
        due("cloneVol(0, 1)", x.cloneVol(0, 1), DOWN);
        due("format()", x.format(), 0);
        due("down()", x.down(), false);
        due("writes()", x.writes(), 18);
        due("recover()", x.recover(), 0);
        due("writes()", x.writes(), 18);
        dueSlots(x, 1, NOTMAPPED, NOTMAPPED);
        CHECK.at("2, format forgets an intent that holds");
        put(x, 0, 0, 7);
        x.crashAfter(5);
        due("cloneVol(0, 1)", x.cloneVol(0, 1), DOWN);
        due("format()", x.format(), 0);
        stage(x, 8);
        x.crashAfter(2);
        due("writeBlock(0, 1)", x.writeBlock(0, 1), DOWN);
        due("recover()", x.recover(), 0);
        due("writes()", x.writes(), 30);
        dueSlots(x, 0, NOTMAPPED, NOTMAPPED);
        dueSlots(x, 1, NOTMAPPED, NOTMAPPED);
        dueSlotWords(x, 0, 8);
    }

    private static void stageWord() {
        CHECK.at("3, stageWord");
        SharedVolumes x = new SharedVolumes(3, 4, 1, 2);
        due("stageWord(0, MIN)", x.stageWord(0, LEAST), 0);
        due("stageWord(1, 0)", x.stageWord(1, 0), 0);
        due("stageWord(2, MAX)", x.stageWord(2, MOST), 0);
        for (int i : new int[] {-1, 3, 4, LEAST, MOST}) {
            due("stageWord(" + i + ", 9)", x.stageWord(i, 9), BADARG);
        }
        due("writes()", x.writes(), 0);
        put(x, 0, 0);
        dueSlotWords(x, 0, LEAST, 0, MOST);
        due("stageWord(1, -4)", x.stageWord(1, -4), 0);
        dueSlotWords(x, 0, LEAST, 0, MOST);
        put(x, 0, 1);
        dueSlotWords(x, 1, LEAST, -4, MOST);
    }

    private static void writeBlockStoresAndShares() {
        CHECK.at("4, writeBlock stores and shares");
        SharedVolumes x = new SharedVolumes(2, 4, 2, 3);
        put(x, 0, 0, 1, 2);
        due("writes()", x.writes(), 8);
        put(x, 0, 0, 1, 2);
        due("writes() for the contents it has", x.writes(), 8);
        put(x, 1, 2, 1, 2);
        due("writes() for a used slot", x.writes(), 14);
        dueSlots(x, 1, NOTMAPPED, NOTMAPPED, 0);
        put(x, 1, 1, 1, 3);
        due("writes() for new contents", x.writes(), 22);
        dueSlots(x, 1, NOTMAPPED, 1, 0);
        put(x, 1, 0, 2, 1);
        dueSlots(x, 1, 2, 1, 0);
        put(x, 1, 1, 2, 1);
        dueSlots(x, 1, 2, 2, 0);
        due("chunksUsed()", x.chunksUsed(), 2);
        dueSlotWords(x, 1, 1, 3);
        put(x, 0, 1, 0, 0);
        due("writes() for zeros", x.writes(), 44);
        dueSlots(x, 0, 0, 1, NOTMAPPED);
    }

    private static void writeBlockRefuses() {
        CHECK.at("4, writeBlock of no such block");
        SharedVolumes x = new SharedVolumes(1, 1, 2, 3);
        put(x, 0, 0, 5);
        x.crashAfter(1);
        for (int bad : new int[] {-1, LEAST, MOST}) {
            due("writeBlock(" + bad + ", 0)", x.writeBlock(bad, 0), BADARG);
            due("writeBlock(0, " + bad + ")", x.writeBlock(0, bad), BADARG);
        }
        due("writeBlock(2, 0)", x.writeBlock(2, 0), BADARG);
        due("writeBlock(0, 3)", x.writeBlock(0, 3), BADARG);
        stage(x, 6);
        due("writeBlock(2, 0) without room", x.writeBlock(2, 0), BADARG);
        due("writeBlock(1, 0) without room", x.writeBlock(1, 0), NOROOM);
        due("writes()", x.writes(), 7);
        due("down()", x.down(), false);
        dueSlotWords(x, 1, 0);
        due("writeBlock(0, 0) uses the loss", x.writeBlock(0, 0), DOWN);
    }

    private static void writeBlockKnowsRoom() {
        CHECK.at("4, writeBlock knows whether there is room");
        SharedVolumes x = new SharedVolumes(1, 2, 2, 2);
        put(x, 0, 0, 1);
        put(x, 0, 1, 2);
        put(x, 1, 0, 2);
        stage(x, 3);
        due("writeBlock of an unmapped block", x.writeBlock(1, 1), NOROOM);
        due("writeBlock of a block that shares", x.writeBlock(0, 1), NOROOM);
        dueSlots(x, 0, 0, 1);
        dueSlots(x, 1, 1, NOTMAPPED);
        due("writeBlock of a block alone", x.writeBlock(0, 0), 0);
        dueSlots(x, 0, 2, 1);
        put(x, 1, 1, 2);
        due("chunksUsed()", x.chunksUsed(), 2);
        put(x, 1, 1, 3);
        due("chunksUsed()", x.chunksUsed(), 2);
    }

    private static void writeBlockTakesTheLowestUnusedSlot() {
        CHECK.at("4, writeBlock takes the lowest slot that is not used");
        SharedVolumes x = new SharedVolumes(1, 5, 1, 6);
        for (int lb = 0; lb < 4; lb++) {
            put(x, 0, lb, 10 + lb);
        }
        due("trim(0, 2)", x.trim(0, 2), 0);
        due("trim(0, 1)", x.trim(0, 1), 0);
        put(x, 0, 5, 12);
        due("writes() where an unused slot has the words", x.writes(), 4 * 7 + 2 * 6 + 7);
        dueSlots(x, 0, 0, NOTMAPPED, NOTMAPPED, 3, NOTMAPPED, 1);
        dueSlotWords(x, 1, 12);
        dueSlotWords(x, 2, 12);
        put(x, 0, 0, 20);
        dueSlots(x, 0, 2, NOTMAPPED, NOTMAPPED, 3, NOTMAPPED, 1);
        put(x, 0, 0, 21);
        dueSlots(x, 0, 0);
        CHECK.at("4, writeBlock writes the first word first");
        SharedVolumes y = new SharedVolumes(3, 2, 1, 2);
        for (int n = 1; n <= 4; n++) {
            stage(y, 10 * n, 10 * n + 1, 10 * n + 2);
            y.crashAfter(n);
            due("writeBlock(0, 0)", y.writeBlock(0, 0), DOWN);
            due("recover()", y.recover(), 0);
            dueSlotWords(y, 0, n > 1 ? 10 * n : 0, n > 2 ? 10 * n + 1 : 0, n > 3 ? 10 * n + 2 : 0);
            due("chunksUsed()", y.chunksUsed(), 0);
        }
        due("writes()", y.writes(), 6);
    }

    private static void readWord() {
        CHECK.at("5, readWord");
        SharedVolumes x = new SharedVolumes(2, 2, 2, 2);
        put(x, 1, 0, -4, 9);
        due("readWord(1, 0, 0)", x.readWord(1, 0, 0), -4);
        due("readWord(1, 0, 1)", x.readWord(1, 0, 1), 9);
        due("readWord(0, 0, 0)", x.readWord(0, 0, 0), 0);
        due("readWord(1, 1, 1)", x.readWord(1, 1, 1), 0);
        for (int bad : new int[] {-1, 2, 3, LEAST, MOST}) {
            due("readWord(" + bad + ", 0, 0)", x.readWord(bad, 0, 0), 0);
            due("readWord(1, " + bad + ", 0)", x.readWord(1, bad, 0), 0);
            due("readWord(1, 0, " + bad + ")", x.readWord(1, 0, bad), 0);
        }
        due("readWord(0, 2, 0)", x.readWord(0, 2, 0), 0);
        due("trim(1, 0)", x.trim(1, 0), 0);
        due("readWord(1, 0, 1) when unmapped", x.readWord(1, 0, 1), 0);
    }

    private static void trim() {
        CHECK.at("6, trim");
        SharedVolumes x = new SharedVolumes(1, 2, 2, 2);
        put(x, 0, 0, 5);
        put(x, 1, 1, 5);
        for (int bad : new int[] {-1, 2, LEAST, MOST}) {
            due("trim(" + bad + ", 0)", x.trim(bad, 0), BADARG);
            due("trim(0, " + bad + ")", x.trim(0, bad), BADARG);
        }
        due("trim(0, 1)", x.trim(0, 1), NOTMAPPED);
        due("writes()", x.writes(), 13);
        due("trim(0, 0)", x.trim(0, 0), 0);
        due("writes()", x.writes(), 19);
        due("trim(0, 0) again", x.trim(0, 0), NOTMAPPED);
        dueSlots(x, 1, NOTMAPPED, 0);
        due("refsOf(1, 1)", x.refsOf(1, 1), 1);
        due("trim(1, 1)", x.trim(1, 1), 0);
        due("chunksUsed()", x.chunksUsed(), 0);
        dueSlotWords(x, 0, 5);
    }

    private static void cloneVol() {
        CHECK.at("7, cloneVol");
        SharedVolumes x = new SharedVolumes(1, 3, 3, 3);
        put(x, 0, 0, 5);
        put(x, 0, 2, 6);
        put(x, 1, 1, 7);
        due("writes()", x.writes(), 21);
        for (int bad : new int[] {-1, 3, LEAST, MOST}) {
            due("cloneVol(" + bad + ", 0)", x.cloneVol(bad, 0), BADARG);
            due("cloneVol(0, " + bad + ")", x.cloneVol(0, bad), BADARG);
        }
        due("writes()", x.writes(), 21);
        due("cloneVol(0, 1)", x.cloneVol(0, 1), 0);
        due("writes()", x.writes(), 29);
        dueSlots(x, 0, 0, NOTMAPPED, 1);
        dueSlots(x, 1, 0, NOTMAPPED, 1);
        due("chunksUsed()", x.chunksUsed(), 2);
        due("cloneVol(0, 1) again", x.cloneVol(0, 1), 0);
        due("writes()", x.writes(), 37);
        due("cloneVol(1, 1)", x.cloneVol(1, 1), 0);
        due("writes()", x.writes(), 45);
        dueSlots(x, 1, 0, NOTMAPPED, 1);
        put(x, 1, 0, 8);
        dueSlots(x, 0, 0, NOTMAPPED, 1);
        dueSlots(x, 1, 2, NOTMAPPED, 1);
        due("cloneVol(2, 0)", x.cloneVol(2, 0), 0);
        dueSlots(x, 0, NOTMAPPED, NOTMAPPED, NOTMAPPED);
        dueSlots(x, 1, 2, NOTMAPPED, 1);
    }

    private static void dropVol() {
        CHECK.at("8, dropVol");
        SharedVolumes x = new SharedVolumes(1, 3, 2, 3);
        put(x, 0, 0, 5);
        put(x, 0, 1, 6);
        put(x, 1, 1, 6);
        for (int bad : new int[] {-1, 2, LEAST, MOST}) {
            due("dropVol(" + bad + ")", x.dropVol(bad), BADARG);
        }
        due("writes()", x.writes(), 20);
        due("dropVol(0)", x.dropVol(0), 0);
        due("writes()", x.writes(), 28);
        dueSlots(x, 0, NOTMAPPED, NOTMAPPED, NOTMAPPED);
        dueSlots(x, 1, NOTMAPPED, 1, NOTMAPPED);
        due("chunksUsed()", x.chunksUsed(), 1);
        dueSlotWords(x, 0, 5);
        due("dropVol(0) again", x.dropVol(0), 0);
        due("writes()", x.writes(), 36);
    }

    private static void chunksUsed() {
        CHECK.at("9, chunksUsed");
        SharedVolumes x = new SharedVolumes(2, 3, 2, 3);
        due("chunksUsed()", x.chunksUsed(), 0);
        put(x, 0, 0, 0, 0);
        due("chunksUsed() with zeros", x.chunksUsed(), 1);
        put(x, 0, 1, 0, 1);
        put(x, 0, 2, 1, 0);
        due("chunksUsed()", x.chunksUsed(), 3);
        due("cloneVol(0, 1)", x.cloneVol(0, 1), 0);
        due("chunksUsed() with shared ones", x.chunksUsed(), 3);
        due("trim(0, 0)", x.trim(0, 0), 0);
        due("chunksUsed() while another has them", x.chunksUsed(), 3);
        due("trim(1, 0)", x.trim(1, 0), 0);
        due("chunksUsed() when none has them", x.chunksUsed(), 2);
    }

    private static void refsOf() {
        CHECK.at("10, refsOf");
        SharedVolumes x = new SharedVolumes(1, 3, 4, 6);
        for (int vol = 0; vol < 4; vol++) {
            for (int lb = 0; lb < 6; lb++) {
                put(x, vol, lb, 5);
                due("refsOf(0, 0)", x.refsOf(0, 0), vol * 6 + lb + 1);
            }
        }
        put(x, 3, 5, 6);
        due("refsOf(0, 0)", x.refsOf(0, 0), 23);
        due("refsOf(3, 5)", x.refsOf(3, 5), 1);
        due("trim(2, 2)", x.trim(2, 2), 0);
        due("refsOf(0, 0)", x.refsOf(0, 0), 22);
        due("refsOf(2, 2) when unmapped", x.refsOf(2, 2), 0);
        for (int bad : new int[] {-1, 6, LEAST, MOST}) {
            due("refsOf(" + bad + ", 0)", x.refsOf(bad, 0), 0);
            due("refsOf(0, " + bad + ")", x.refsOf(0, bad), 0);
        }
        due("refsOf(4, 0)", x.refsOf(4, 0), 0);
    }

    private static void slotOf() {
        CHECK.at("11, slotOf");
        SharedVolumes x = new SharedVolumes(1, 3, 2, 2);
        put(x, 1, 1, 5);
        put(x, 0, 1, 6);
        due("slotOf(1, 1)", x.slotOf(1, 1), 0);
        due("slotOf(0, 1)", x.slotOf(0, 1), 1);
        due("slotOf(0, 0)", x.slotOf(0, 0), NOTMAPPED);
        for (int bad : new int[] {-1, 2, LEAST, MOST}) {
            due("slotOf(" + bad + ", 0)", x.slotOf(bad, 0), BADARG);
            due("slotOf(0, " + bad + ")", x.slotOf(0, bad), BADARG);
        }
    }

    private static void slotWord() {
        CHECK.at("12, slotWord");
        SharedVolumes x = new SharedVolumes(2, 1, 1, 2);
        put(x, 0, 0, 3, -7);
        dueSlotWords(x, 0, 3, -7);
        dueSlotWords(x, 1, 0, 0);
        put(x, 0, 0, 4, -8);
        dueSlotWords(x, 0, 3, -7);
        dueSlotWords(x, 1, 4, -8);
        for (int bad : new int[] {-1, 2, 3, 4, LEAST, MOST}) {
            due("slotWord(" + bad + ", 0)", x.slotWord(bad, 0), 0);
            due("slotWord(0, " + bad + ")", x.slotWord(0, bad), 0);
            due("slotWord(1, " + bad + ")", x.slotWord(1, bad), 0);
        }
    }

    private static void crashAfterArms() {
        CHECK.at("13, crashAfter arms over several calls");
        SharedVolumes x = new SharedVolumes(1, 3, 1, 3);
        x.crashAfter(9);
        put(x, 0, 0, 5);
        due("writeBlock(0, 0) makes no write", x.writeBlock(0, 0), 0);
        due("slotOf(0, 0)", x.slotOf(0, 0), 0);
        stage(x, 6);
        due("writeBlock(0, 1)", x.writeBlock(0, 1), DOWN);
        due("writes()", x.writes(), 8);
        due("recover()", x.recover(), 0);
        dueSlotWords(x, 1, 6);
        CHECK.at("13, crashAfter once more");
        x.crashAfter(1);
        x.crashAfter(8);
        put(x, 0, 1, 7);
        x.crashAfter(1);
        x.crashAfter(0);
        put(x, 0, 1, 8);
        x.crashAfter(1);
        x.crashAfter(LEAST);
        put(x, 0, 1, 9);
        x.crashAfter(MOST);
        put(x, 0, 1, 10);
        due("down()", x.down(), false);
        x.crashAfter(1);
        due("trim(0, 1)", x.trim(0, 1), DOWN);
        due("recover()", x.recover(), 0);
        CHECK.at("13, nothing is armed after a loss");
        due("trim(0, 1)", x.trim(0, 1), 0);
    }

    private static void crashAfterEndsAtThirty() {
        CHECK.at("13, thirty losses");
        SharedVolumes x = new SharedVolumes(1, 3, 1, 2);
        for (int i = 0; i < 14; i++) {
            x.crashAfter(1);
            due("dropVol(0)", x.dropVol(0), DOWN);
            x.crashAfter(1);
            due("recover()", x.recover(), 0);
            x.crashAfter(0);
            x.crashAfter(-1);
        }
        for (int i = 0; i < 15; i++) {
            x.crashAfter(1);
        }
        due("format()", x.format(), 0);
        x.crashAfter(9);
        x.crashAfter(1);
        put(x, 0, 0, 5);
        x.crashAfter(50);
        due("dropVol(0) by the thirtieth", x.dropVol(0), DOWN);
        due("writes()", x.writes(), 8);
        due("recover()", x.recover(), 0);
        x.crashAfter(1);
        due("dropVol(0) after thirty", x.dropVol(0), 0);
        CHECK.at("13, what was armed is taken back after thirty losses");
        SharedVolumes y = new SharedVolumes(1, 3, 1, 2);
        for (int i = 0; i < 30; i++) {
            y.crashAfter(1);
        }
        y.crashAfter(0);
        due("dropVol(0)", y.dropVol(0), 0);
        y.crashAfter(1);
        due("dropVol(0)", y.dropVol(0), 0);
    }

    private static void downAnswers() {
        CHECK.at("14, down");
        SharedVolumes x = new SharedVolumes(1, 3, 1, 2);
        due("down()", x.down(), false);
        x.crashAfter(6);
        due("down() when armed", x.down(), false);
        stage(x, 5);
        due("writeBlock(0, 0)", x.writeBlock(0, 0), DOWN);
        due("down()", x.down(), true);
        due("down() again", x.down(), true);
        due("recover()", x.recover(), 0);
        due("down()", x.down(), false);
        x.crashAfter(1);
        due("dropVol(0)", x.dropVol(0), DOWN);
        due("down()", x.down(), true);
        due("format()", x.format(), 0);
        due("down()", x.down(), false);
    }

    private static void downCallsChangeNothing() {
        CHECK.at("14, calls while the power is down");
        SharedVolumes x = new SharedVolumes(1, 1, 2, 2);
        put(x, 0, 0, 5);
        x.crashAfter(1);
        due("trim(0, 0)", x.trim(0, 0), DOWN);
        for (int n : new int[] {0, 1, -1, 9}) {
            due("stageWord(" + n + ", 9)", x.stageWord(n, 9), DOWN);
            due("writeBlock(" + n + ", 0)", x.writeBlock(n, 0), DOWN);
            due("readWord(" + n + ", 0, 0)", x.readWord(n, 0, 0), DOWN);
            due("readWord(0, 0, " + n + ")", x.readWord(0, 0, n), DOWN);
            due("trim(" + n + ", 0)", x.trim(n, 0), DOWN);
            due("trim(0, " + n + ")", x.trim(0, n), DOWN);
            due("cloneVol(0, " + n + ")", x.cloneVol(0, n), DOWN);
            due("dropVol(" + n + ")", x.dropVol(n), DOWN);
            due("refsOf(" + n + ", 0)", x.refsOf(n, 0), DOWN);
            due("slotOf(" + n + ", 0)", x.slotOf(n, 0), DOWN);
            due("slotWord(" + n + ", 0)", x.slotWord(n, 0), DOWN);
            x.crashAfter(n);
        }
        due("chunksUsed()", x.chunksUsed(), DOWN);
        due("writes()", x.writes(), 7);
        due("recover()", x.recover(), 0);
        due("writes()", x.writes(), 7);
        dueSlots(x, 0, 0, NOTMAPPED);
        dueSlots(x, 1, NOTMAPPED, NOTMAPPED);
        dueSlotWords(x, 0, 5);
        put(x, 0, 0);
        due("readWord(0, 0, 0)", x.readWord(0, 0, 0), 0);
        due("slotOf(0, 0)", x.slotOf(0, 0), 1);
    }

    // A change of k blocks after w words: what holds is done by recover with k + 1 writes.
    private static void dueLoss(SharedVolumes x, int n, int w, int k, int before) {
        boolean holds = n > w + 4;
        due("writes() with n = " + n, x.writes(), before + n - 1);
        due("down() with n = " + n, x.down(), true);
        due("recover() with n = " + n, x.recover(), 0);
        due("down() with n = " + n, x.down(), false);
        due("writes() with n = " + n, x.writes(), before + n - 1 + (holds ? k + 1 : 0));
        due("recover() again", x.recover(), 0);
        due("writes() with n = " + n, x.writes(), before + n - 1 + (holds ? k + 1 : 0));
    }

    private static void recoverOfWriteBlock() {
        CHECK.at("15, recover of a writeBlock of new contents");
        for (int n = 1; n <= 8; n++) {
            SharedVolumes x = new SharedVolumes(2, 3, 1, 2);
            put(x, 0, 0, 1, 2);
            stage(x, 3, 4);
            x.crashAfter(n);
            due("writeBlock(0, 0) with n = " + n, x.writeBlock(0, 0), DOWN);
            dueLoss(x, n, 2, 1, 8);
            dueSlots(x, 0, n > 6 ? 1 : 0, NOTMAPPED);
            dueSlotWords(x, 1, n > 1 ? 3 : 0, n > 2 ? 4 : 0);
            put(x, 0, 1);
            due("readWord(0, 1, 0) of the staged block", x.readWord(0, 1, 0), 0);
            due("readWord(0, 1, 1) of the staged block", x.readWord(0, 1, 1), 0);
        }
        CHECK.at("15, recover of a writeBlock of shared contents");
        for (int n = 1; n <= 6; n++) {
            SharedVolumes x = new SharedVolumes(2, 3, 1, 2);
            put(x, 0, 0, 1, 2);
            x.crashAfter(n);
            due("writeBlock(0, 1) with n = " + n, x.writeBlock(0, 1), DOWN);
            dueLoss(x, n, 0, 1, 8);
            dueSlots(x, 0, 0, n > 4 ? 0 : NOTMAPPED);
        }
    }

    private static void recoverOfTrim() {
        CHECK.at("15, recover of a trim");
        for (int n = 1; n <= 6; n++) {
            SharedVolumes x = new SharedVolumes(1, 3, 2, 2);
            put(x, 0, 0, 5);
            put(x, 1, 1, 6);
            x.crashAfter(n);
            due("trim(1, 1) with n = " + n, x.trim(1, 1), DOWN);
            dueLoss(x, n, 0, 1, 14);
            dueSlots(x, 0, 0, NOTMAPPED);
            dueSlots(x, 1, NOTMAPPED, n > 4 ? NOTMAPPED : 1);
        }
    }

    private static void recoverOfCloneVol() {
        CHECK.at("15, recover of a cloneVol");
        for (int n = 1; n <= 8; n++) {
            SharedVolumes x = new SharedVolumes(1, 3, 2, 3);
            put(x, 0, 0, 5);
            put(x, 0, 2, 6);
            put(x, 1, 1, 7);
            x.crashAfter(n);
            due("cloneVol(0, 1) with n = " + n, x.cloneVol(0, 1), DOWN);
            dueLoss(x, n, 0, 3, 21);
            dueSlots(x, 0, 0, NOTMAPPED, 1);
            boolean done = n > 4;
            dueSlots(x, 1, done ? 0 : NOTMAPPED, done ? NOTMAPPED : 2, done ? 1 : NOTMAPPED);
            due("chunksUsed()", x.chunksUsed(), done ? 2 : 3);
        }
    }

    private static void recoverOfDropVol() {
        CHECK.at("15, recover of a dropVol");
        for (int n = 1; n <= 8; n++) {
            SharedVolumes x = new SharedVolumes(1, 3, 2, 3);
            put(x, 1, 0, 5);
            put(x, 1, 2, 6);
            put(x, 0, 1, 5);
            x.crashAfter(n);
            due("dropVol(1) with n = " + n, x.dropVol(1), DOWN);
            dueLoss(x, n, 0, 3, 20);
            boolean done = n > 4;
            dueSlots(x, 0, NOTMAPPED, 0, NOTMAPPED);
            dueSlots(x, 1, done ? NOTMAPPED : 0, NOTMAPPED, done ? NOTMAPPED : 1);
            due("chunksUsed()", x.chunksUsed(), done ? 1 : 2);
        }
    }

    private static void recoverWithPower() {
        CHECK.at("15, recover while there is power");
        SharedVolumes x = new SharedVolumes(1, 3, 1, 2);
        stage(x, 5);
        x.crashAfter(8);
        due("recover()", x.recover(), 0);
        put(x, 0, 0);
        due("recover()", x.recover(), 0);
        due("readWord(0, 0, 0)", x.readWord(0, 0, 0), 5);
        due("writes()", x.writes(), 7);
        due("trim(0, 0)", x.trim(0, 0), DOWN);
        due("writes()", x.writes(), 7);
    }

    private static void writes() {
        CHECK.at("16, writes");
        SharedVolumes x = new SharedVolumes(3, 3, 2, 6);
        stage(x, 1, 2, 3);
        due("writes()", x.writes(), 0);
        put(x, 0, 0);
        due("writes()", x.writes(), 9);
        put(x, 0, 1);
        due("writes()", x.writes(), 15);
        due("cloneVol(0, 1)", x.cloneVol(0, 1), 0);
        due("writes()", x.writes(), 26);
        due("trim(0, 0)", x.trim(0, 0), 0);
        due("writes()", x.writes(), 32);
        due("dropVol(1)", x.dropVol(1), 0);
        due("writes()", x.writes(), 43);
        x.crashAfter(6);
        due("dropVol(0)", x.dropVol(0), DOWN);
        due("writes() while down", x.writes(), 48);
        due("recover()", x.recover(), 0);
        due("writes()", x.writes(), 55);
        due("format()", x.format(), 0);
        due("writes()", x.writes(), 55);
        due("readWord(0, 0, 0)", x.readWord(0, 0, 0), 0);
        due("writes()", x.writes(), 55);
    }
}
