import java.util.Arrays;

/**
 * Volumes of blocks that share equal contents: a block is looked for among all that are stored
 * before it is stored anew, contents are given up when no block holds them any more, and every
 * change is put down as an intent first, so that a loss of power leaves it done wholly or not at
 * all.
 */
public final class SharedVolumes {
    public static final int BADARG = -1;
    public static final int NOROOM = -2;
    public static final int NOTMAPPED = -3;
    public static final int DOWN = -4;

    private static final int MOST_BLOCK_WORDS = 4;
    private static final int MOST_CHUNKS = 12;
    private static final int MOST_VOLUMES = 4;
    private static final int MOST_BLOCKS = 6;

    private static final int NO_SLOT = -1;

    // The kind is the intent's last word, so that the intent holds from the fourth write on.
    private static final int INTENT_WORDS = 4;
    private static final int KIND = 3;
    private static final int NO_INTENT = 0;
    private static final int MAP_BLOCK = 1;
    private static final int CLONE_VOLUME = 2;
    private static final int DROP_VOLUME = 3;

    private final int blockWords;
    private final int chunks;
    private final int volumes;
    private final int blocks;
    private final int[] staged;

    // The disk's cells: the words of all slots, then the maps, then the intent.
    private final int mapStart;
    private final int intentStart;
    private final Disk disk;

    public SharedVolumes(int blockWords, int chunks, int volumes, int blocks) {
        this.blockWords = within(blockWords, MOST_BLOCK_WORDS);
        this.chunks = within(chunks, MOST_CHUNKS);
        this.volumes = within(volumes, MOST_VOLUMES);
        this.blocks = within(blocks, MOST_BLOCKS);
        staged = new int[this.blockWords];
        mapStart = (this.chunks + 1) * this.blockWords;
        intentStart = mapStart + this.volumes * this.blocks;
        disk = new Disk(intentStart + INTENT_WORDS);
    }

    public int format() {
        disk.wipe();
        clearStaged();
        return 0;
    }

    public int stageWord(int i, int word) {
        if (disk.isDown()) {
            return DOWN;
        }
        if (!isWord(i)) {
            return BADARG;
        }
        staged[i] = word;
        return 0;
    }

    public int writeBlock(int vol, int lb) {
        if (disk.isDown()) {
            return DOWN;
        }
        if (!isBlock(vol, lb)) {
            return BADARG;
        }
        int slot = usedSlotWithStaged();
        if (slot == NO_SLOT) {
            return writeNewContents(vol, lb);
        }
        if (slot == mappedSlot(vol, lb)) {
            return 0;
        }
        return change(MAP_BLOCK, vol, lb, slot);
    }

    public int readWord(int vol, int lb, int i) {
        if (disk.isDown()) {
            return DOWN;
        }
        if (!isBlock(vol, lb) || !isWord(i)) {
            return 0;
        }
        int slot = mappedSlot(vol, lb);
        return slot == NO_SLOT ? 0 : disk.read(slotCell(slot, i));
    }

    public int trim(int vol, int lb) {
        if (disk.isDown()) {
            return DOWN;
        }
        if (!isBlock(vol, lb)) {
            return BADARG;
        }
        if (mappedSlot(vol, lb) == NO_SLOT) {
            return NOTMAPPED;
        }
        return change(MAP_BLOCK, vol, lb, NO_SLOT);
    }

    public int cloneVol(int src, int dst) {
        if (disk.isDown()) {
            return DOWN;
        }
        if (!isVolume(src) || !isVolume(dst)) {
            return BADARG;
        }
        return change(CLONE_VOLUME, dst, src, 0);
    }

    public int dropVol(int vol) {
        if (disk.isDown()) {
            return DOWN;
        }
        if (!isVolume(vol)) {
            return BADARG;
        }
        return change(DROP_VOLUME, vol, 0, 0);
    }

    public int chunksUsed() {
        return disk.isDown() ? DOWN : usedSlots();
    }

    public int refsOf(int vol, int lb) {
        if (disk.isDown()) {
            return DOWN;
        }
        if (!isBlock(vol, lb)) {
            return 0;
        }
        int slot = mappedSlot(vol, lb);
        return slot == NO_SLOT ? 0 : blocksMappedTo(slot);
    }

    public int slotOf(int vol, int lb) {
        if (disk.isDown()) {
            return DOWN;
        }
        if (!isBlock(vol, lb)) {
            return BADARG;
        }
        int slot = mappedSlot(vol, lb);
        return slot == NO_SLOT ? NOTMAPPED : slot;
    }

    public int slotWord(int slot, int i) {
        if (disk.isDown()) {
            return DOWN;
        }
        if (slot < 0 || slot > chunks || !isWord(i)) {
            return 0;
        }
        return disk.read(slotCell(slot, i));
    }

    public void crashAfter(int writes) {
        disk.armLoss(writes);
    }

    public boolean down() {
        return disk.isDown();
    }

    public int recover() {
        if (disk.isDown()) {
            disk.restorePower();
            clearStaged();
            carryOutIntent();
        }
        return 0;
    }

    public int writes() {
        return disk.writesDone();
    }

    private static int within(int wanted, int most) {
        return Math.max(1, Math.min(wanted, most));
    }

    private boolean isWord(int i) {
        return i >= 0 && i < blockWords;
    }

    private boolean isVolume(int vol) {
        return vol >= 0 && vol < volumes;
    }

    private boolean isBlock(int vol, int lb) {
        return isVolume(vol) && lb >= 0 && lb < blocks;
    }

    private int slotCell(int slot, int i) {
        return slot * blockWords + i;
    }

    private int mapCell(int vol, int lb) {
        return mapStart + vol * blocks + lb;
    }

    // A map's cell holds the slot's number plus 1, so that a wiped disk has no block mapped.
    private int mappedSlot(int vol, int lb) {
        return disk.read(mapCell(vol, lb)) - 1;
    }

    private void mapBlock(int vol, int lb, int slot) {
        disk.write(mapCell(vol, lb), slot + 1);
    }

    private int blocksMappedTo(int slot) {
        int count = 0;
        for (int cell = mapStart; cell < intentStart; cell++) {
            if (disk.read(cell) == slot + 1) {
                count++;
            }
        }
        return count;
    }

    private boolean isUsed(int slot) {
        return blocksMappedTo(slot) > 0;
    }

    private int usedSlots() {
        int count = 0;
        for (int slot = 0; slot <= chunks; slot++) {
            if (isUsed(slot)) {
                count++;
            }
        }
        return count;
    }

    // One slot more than the contents allowed: when all others are used, the last one is not.
    private int lowestUnusedSlot() {
        int slot = 0;
        while (slot < chunks && isUsed(slot)) {
            slot++;
        }
        return slot;
    }

    private boolean hasStagedWords(int slot) {
        for (int i = 0; i < blockWords; i++) {
            if (disk.read(slotCell(slot, i)) != staged[i]) {
                return false;
            }
        }
        return true;
    }

    private int usedSlotWithStaged() {
        for (int slot = 0; slot <= chunks; slot++) {
            if (hasStagedWords(slot) && isUsed(slot)) {
                return slot;
            }
        }
        return NO_SLOT;
    }

    private void clearStaged() {
        Arrays.fill(staged, 0);
    }

    private int writeNewContents(int vol, int lb) {
        if (usedSlotsWithout(vol, lb) >= chunks) {
            return NOROOM;
        }
        int slot = lowestUnusedSlot();
        for (int i = 0; i < blockWords; i++) {
            disk.write(slotCell(slot, i), staged[i]);
        }
        return change(MAP_BLOCK, vol, lb, slot);
    }

    // The block's own old contents are given up by the change when no other block has them.
    private int usedSlotsWithout(int vol, int lb) {
        int old = mappedSlot(vol, lb);
        boolean givenUp = old != NO_SLOT && blocksMappedTo(old) == 1;
        return givenUp ? usedSlots() - 1 : usedSlots();
    }

    // The other is the block of MAP_BLOCK, or the volume that CLONE_VOLUME takes its maps from.
    // No step looks whether the power is still there: a disk without power takes no writes.
    private int change(int kind, int vol, int other, int slot) {
        disk.write(intentStart, vol);
        disk.write(intentStart + 1, other);
        disk.write(intentStart + 2, slot);
        disk.write(intentStart + KIND, kind);
        carryOutIntent();
        return disk.isDown() ? DOWN : 0;
    }

    private void carryOutIntent() {
        int kind = disk.read(intentStart + KIND);
        if (kind == NO_INTENT) {
            return;
        }
        int vol = disk.read(intentStart);
        int other = disk.read(intentStart + 1);
        if (kind == MAP_BLOCK) {
            mapBlock(vol, other, disk.read(intentStart + 2));
        } else if (kind == CLONE_VOLUME) {
            mapVolumeAs(vol, other);
        } else {
            unmapVolume(vol);
        }
        disk.write(intentStart + KIND, NO_INTENT);
    }

    private void mapVolumeAs(int vol, int source) {
        for (int lb = 0; lb < blocks; lb++) {
            mapBlock(vol, lb, mappedSlot(source, lb));
        }
    }

    private void unmapVolume(int vol) {
        for (int lb = 0; lb < blocks; lb++) {
            mapBlock(vol, lb, NO_SLOT);
        }
    }

    /** Cells that are written one by one while there is power. */
    private static final class Disk {
        private static final int MOST_LOSSES = 30;
        private static final int NOT_ARMED = 0;

        private final int[] cells;
        private int writeCount;
        private int writesToLoss;
        private int lossesArmed;
        private boolean powerLost;

        private Disk(int size) {
            cells = new int[size];
        }

        private void wipe() {
            Arrays.fill(cells, 0);
            writesToLoss = NOT_ARMED;
            powerLost = false;
        }

        private int read(int cell) {
            return cells[cell];
        }

        private void write(int cell, int word) {
            if (powerLost) {
                return;
            }
            if (writesToLoss != NOT_ARMED) {
                writesToLoss--;
                powerLost = writesToLoss == NOT_ARMED;
            }
            if (!powerLost) {
                cells[cell] = word;
                writeCount++;
            }
        }

        private void armLoss(int n) {
            if (powerLost) {
                return;
            }
            if (n < 1) {
                writesToLoss = NOT_ARMED;
            } else if (lossesArmed < MOST_LOSSES) {
                lossesArmed++;
                writesToLoss = n;
            }
        }

        private void restorePower() {
            powerLost = false;
        }

        private boolean isDown() {
            return powerLost;
        }

        private int writesDone() {
            return writeCount;
        }
    }
}
