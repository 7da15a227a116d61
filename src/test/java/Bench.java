import java.util.Arrays;

/** An object under test with its true sizes; its calls are made together with the answer that is due. */
final class Bench {
    private static final int MOST_CALLS = 512;

    final int words;
    final int chunks;
    final int volumes;
    final int blocks;
    private final Check check;
    private final SharedVolumes tried;
    private int calls = 0;

    Bench(Check check, SharedVolumes tried, int words, int chunks, int volumes, int blocks) {
        this.check = check;
        this.tried = tried;
        this.words = words;
        this.chunks = chunks;
        this.volumes = volumes;
        this.blocks = blocks;
    }

    /** The calls that answer, each compared with the answer that is due. */
    final class Due {
        private final int want;

        private Due(int want) {
            this.want = want;
        }

        void format() {
            answered("format()", tried.format());
        }

        void stageWord(int i, int word) {
            answered("stageWord(" + i + ", " + word + ")", tried.stageWord(i, word));
        }

        void writeBlock(int vol, int lb) {
            answered("writeBlock(" + vol + ", " + lb + ")", tried.writeBlock(vol, lb));
        }

        void readWord(int vol, int lb, int i) {
            answered("readWord(" + vol + ", " + lb + ", " + i + ")", tried.readWord(vol, lb, i));
        }

        void trim(int vol, int lb) {
            answered("trim(" + vol + ", " + lb + ")", tried.trim(vol, lb));
        }

        void cloneVol(int src, int dst) {
            answered("cloneVol(" + src + ", " + dst + ")", tried.cloneVol(src, dst));
        }

        void dropVol(int vol) {
            answered("dropVol(" + vol + ")", tried.dropVol(vol));
        }

        void chunksUsed() {
            answered("chunksUsed()", tried.chunksUsed());
        }

        void refsOf(int vol, int lb) {
            answered("refsOf(" + vol + ", " + lb + ")", tried.refsOf(vol, lb));
        }

        void slotOf(int vol, int lb) {
            answered("slotOf(" + vol + ", " + lb + ")", tried.slotOf(vol, lb));
        }

        void slotWord(int slot, int i) {
            answered("slotWord(" + slot + ", " + i + ")", tried.slotWord(slot, i));
        }

        void recover() {
            answered("recover()", tried.recover());
        }

        void writes() {
            answered("writes()", tried.writes());
        }

        private void answered(String call, int got) {
            count(1);
            check.due("call " + calls + ", " + call, got, want);
        }
    }

    Due due(int want) {
        return new Due(want);
    }

    void dueDown(boolean want) {
        count(1);
        check.due("call " + calls + ", down()", tried.down(), want);
    }

    void crashAfter(int writes) {
        count(1);
        tried.crashAfter(writes);
    }

    int writesNow() {
        count(1);
        return tried.writes();
    }

    int slotNow(int vol, int lb) {
        count(1);
        return tried.slotOf(vol, lb);
    }

    int callsMade() {
        return calls;
    }

    void stage(int... newWords) {
        for (int i = 0; i < newWords.length; i++) {
            due(0).stageWord(i, newWords[i]);
        }
    }

    void put(int vol, int lb, int... newWords) {
        stage(newWords);
        due(0).writeBlock(vol, lb);
    }

    void dueSlots(int vol, int... slots) {
        for (int lb = 0; lb < slots.length; lb++) {
            due(slots[lb]).slotOf(vol, lb);
        }
    }

    void dueSlotWords(int slot, int... wanted) {
        for (int i = 0; i < wanted.length; i++) {
            due(wanted[i]).slotWord(slot, i);
        }
    }

    void dueContents(int vol, int lb, int... wanted) {
        for (int i = 0; i < wanted.length; i++) {
            due(wanted[i]).readWord(vol, lb, i);
        }
    }

    /** All that can be seen: not the staged block nor what is armed, which only a change shows. */
    String state() {
        count(3);
        StringBuilder text = new StringBuilder();
        text.append("down ").append(tried.down()).append(", writes ").append(tried.writes());
        text.append(", used ").append(tried.chunksUsed());
        for (int vol = 0; vol < volumes; vol++) {
            for (int lb = 0; lb < blocks; lb++) {
                appendBlock(text, vol, lb);
            }
        }
        for (int slot = 0; slot <= chunks; slot++) {
            appendSlot(text, slot);
        }
        return text.toString();
    }

    void dueState(String want) {
        check.due("after call " + calls + ", the state", state(), want);
    }

    private void appendBlock(StringBuilder text, int vol, int lb) {
        count(words + 2);
        int[] contents = new int[words];
        for (int i = 0; i < words; i++) {
            contents[i] = tried.readWord(vol, lb, i);
        }
        text.append("; block ").append(vol).append(' ').append(lb).append(" in ").append(tried.slotOf(vol, lb));
        text.append(" of ").append(tried.refsOf(vol, lb)).append(' ').append(Arrays.toString(contents));
    }

    private void appendSlot(StringBuilder text, int slot) {
        count(words);
        int[] held = new int[words];
        for (int i = 0; i < words; i++) {
            held[i] = tried.slotWord(slot, i);
        }
        text.append("; slot ").append(slot).append(' ').append(Arrays.toString(held));
    }

    // What an object answers after that many calls is free, so no test may lean on it.
    private void count(int more) {
        calls += more;
        if (calls > MOST_CALLS) {
            throw new IllegalStateException("the test makes more than " + MOST_CALLS + " calls on one object");
        }
    }
}
