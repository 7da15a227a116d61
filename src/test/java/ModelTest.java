import java.util.Arrays;
import java.util.HashSet;
import java.util.Random;
import java.util.Set;
import java.util.TreeMap;

/**
 * Long mixed runs, each answer compared with a model that is built another way: it has no disk, but
 * reckons for each call how many of its writes happen before the power goes.
 */
public final class ModelTest {
    private static final int RUNS = 4000;
    private static final int MOST_CALLS = 300;

    public static void main(String[] args) {
        Check check = new Check();
        check.sentence("all promises together", () -> playAll(check));
        check.end();
    }

    private static void playAll(Check check) {
        for (int seed = 1; seed <= RUNS && check.allRight(); seed++) {
            new Run(check, seed).play();
        }
    }

    private static final class Model {
        final int words;
        final int chunks;
        final int volumes;
        final int blocks;
        final TreeMap<Integer, Integer> map = new TreeMap<>();
        final int[][] slots;
        int[] staged;
        boolean armed;
        int armedWith;
        int timesArmed;
        boolean down;
        int writesToRecover;
        int writes;

        Model(int words, int chunks, int volumes, int blocks) {
            this.words = clamp(words, 4);
            this.chunks = clamp(chunks, 12);
            this.volumes = clamp(volumes, 4);
            this.blocks = clamp(blocks, 6);
            slots = new int[this.chunks + 1][this.words];
            staged = new int[this.words];
        }

        static int clamp(int wanted, int most) {
            return wanted < 1 ? 1 : wanted > most ? most : wanted;
        }

        int format() {
            map.clear();
            for (int[] slot : slots) {
                Arrays.fill(slot, 0);
            }
            staged = new int[words];
            down = false;
            armed = false;
            writesToRecover = 0;
            return 0;
        }

        boolean word(int i) {
            return 0 <= i && i < words;
        }

        boolean volume(int vol) {
            return 0 <= vol && vol < volumes;
        }

        boolean block(int vol, int lb) {
            return volume(vol) && 0 <= lb && lb < blocks;
        }

        Integer slotNumber(int vol, int lb) {
            return block(vol, lb) ? map.get(vol * blocks + lb) : null;
        }

        int stageWord(int i, int word) {
            if (down) return -4;
            if (!word(i)) return -1;
            staged[i] = word;
            return 0;
        }

        int writeBlock(int vol, int lb) {
            if (down) return -4;
            if (!block(vol, lb)) return -1;
            TreeMap<Integer, Integer> after = new TreeMap<>(map);
            after.remove(vol * blocks + lb);
            Set<Integer> othersSlots = new HashSet<>(after.values());
            Set<Integer> usedSlots = new HashSet<>(map.values());
            TreeMap<Integer, Integer> named = new TreeMap<>();
            for (int slot : usedSlots) {
                if (Arrays.equals(slots[slot], staged)) {
                    if (Integer.valueOf(slot).equals(slotNumber(vol, lb))) return 0;
                    named.put(vol * blocks + lb, slot);
                    return change(-1, named);
                }
            }
            if (othersSlots.size() + 1 > chunks) return -2;
            int free = 0;
            while (usedSlots.contains(free)) free++;
            named.put(vol * blocks + lb, free);
            return change(free, named);
        }

        int change(int newSlot, TreeMap<Integer, Integer> named) {
            int forWords = newSlot < 0 ? 0 : words;
            int whole = forWords + 4 + named.size() + 1;
            boolean lost = armed && armedWith <= whole;
            int happen = lost ? armedWith - 1 : whole;
            writes += happen;
            for (int i = 0; i < Math.min(forWords, happen); i++) slots[newSlot][i] = staged[i];
            boolean holds = happen >= forWords + 4;
            if (holds) {
                named.forEach((at, slot) -> {
                    if (slot == null) map.remove(at);
                    else map.put(at, slot);
                });
            }
            if (!lost) {
                armedWith -= whole;
                return 0;
            }
            armed = false;
            down = true;
            writesToRecover = holds ? named.size() + 1 : 0;
            return -4;
        }

        int readWord(int vol, int lb, int i) {
            if (down) return -4;
            Integer slot = slotNumber(vol, lb);
            return slot == null || !word(i) ? 0 : slots[slot][i];
        }

        int trim(int vol, int lb) {
            if (down) return -4;
            if (!block(vol, lb)) return -1;
            if (slotNumber(vol, lb) == null) return -3;
            TreeMap<Integer, Integer> named = new TreeMap<>();
            named.put(vol * blocks + lb, null);
            return change(-1, named);
        }

        int cloneVol(int src, int dst) {
            if (down) return -4;
            if (!volume(src) || !volume(dst)) return -1;
            TreeMap<Integer, Integer> named = new TreeMap<>();
            for (int lb = 0; lb < blocks; lb++) named.put(dst * blocks + lb, slotNumber(src, lb));
            return change(-1, named);
        }

        int dropVol(int vol) {
            if (down) return -4;
            if (!volume(vol)) return -1;
            TreeMap<Integer, Integer> named = new TreeMap<>();
            for (int lb = 0; lb < blocks; lb++) named.put(vol * blocks + lb, null);
            return change(-1, named);
        }

        int chunksUsed() {
            if (down) return -4;
            Set<String> contents = new HashSet<>();
            for (int slot : map.values()) contents.add(Arrays.toString(slots[slot]));
            return contents.size();
        }

        int refsOf(int vol, int lb) {
            if (down) return -4;
            Integer slot = slotNumber(vol, lb);
            int count = 0;
            for (int other : map.values()) {
                if (slot != null && Arrays.equals(slots[slot], slots[other])) count++;
            }
            return count;
        }

        int slotOf(int vol, int lb) {
            if (down) return -4;
            if (!block(vol, lb)) return -1;
            Integer slot = slotNumber(vol, lb);
            return slot == null ? -3 : slot;
        }

        int slotWord(int slot, int i) {
            if (down) return -4;
            return slot < 0 || slot > chunks || !word(i) ? 0 : slots[slot][i];
        }

        void crashAfter(int n) {
            if (down || n > 0 && timesArmed == 30) return;
            armed = n > 0;
            armedWith = n;
            if (armed) timesArmed++;
        }

        int recover() {
            if (down) {
                down = false;
                staged = new int[words];
                writes += writesToRecover;
                writesToRecover = 0;
            }
            return 0;
        }
    }

    private static final class Run {
        private final Check check;
        private final int seed;
        private final Random random;
        private final SharedVolumes real;
        private final Model model;
        private final boolean filling;
        private final int crashShare;
        private final int wordKinds;
        private int calls = 0;

        Run(Check check, int seed) {
            this.check = check;
            this.seed = seed;
            random = new Random(seed);
            int words = size(4);
            int chunks = size(12);
            int volumes = size(4);
            int blocks = size(6);
            real = new SharedVolumes(words, chunks, volumes, blocks);
            model = new Model(words, chunks, volumes, blocks);
            // Without these the limits of 12 contents and 30 losses would hardly ever be met.
            filling = random.nextInt(3) == 0;
            crashShare = random.nextInt(5);
            wordKinds = filling ? 20 : 2 + random.nextInt(5);
        }

        private int size(int most) {
            return random.nextInt(12) == 0 ? random.nextInt() : random.nextInt(most + 3) - 1;
        }

        // Mostly within 0 .. bound - 1, at times beside it or far from it.
        private int number(int bound) {
            int kind = random.nextInt(40);
            if (kind == 0) return random.nextInt();
            if (kind == 1) return -1;
            if (kind == 2) return bound;
            return random.nextInt(bound);
        }

        void play() {
            int count = random.nextInt(MOST_CALLS);
            for (int i = 0; i < count; i++) {
                step();
            }
            recover();
            lookAtAll();
            if (calls > 512) throw new IllegalStateException("more calls than an object is good for");
        }

        private void step() {
            int vol = number(model.volumes);
            int lb = number(model.blocks);
            switch (random.nextInt(filling ? 12 : 16)) {
                case 0, 1, 2, 3 -> stageWord(number(model.words), random.nextInt(wordKinds) - 1);
                case 4, 5, 6, 7 -> due("writeBlock", real.writeBlock(vol, lb), model.writeBlock(vol, lb), vol, lb);
                case 8 -> lookAtOne(vol, lb);
                case 9, 10 -> crashOrNot();
                case 11 -> recover();
                case 12, 13 -> due("trim", real.trim(vol, lb), model.trim(vol, lb), vol, lb);
                case 14 -> cloneVol(vol, number(model.volumes));
                default -> rareCall(vol);
            }
        }

        private void stageWord(int i, int word) {
            due("stageWord", real.stageWord(i, word), model.stageWord(i, word), i, word);
        }

        private void cloneVol(int src, int dst) {
            due("cloneVol", real.cloneVol(src, dst), model.cloneVol(src, dst), src, dst);
        }

        private void rareCall(int vol) {
            if (random.nextInt(25) == 0) {
                due("format", real.format(), model.format());
            } else if (random.nextInt(3) == 0) {
                due("dropVol", real.dropVol(vol), model.dropVol(vol), vol);
            }
        }

        private void crashOrNot() {
            if (random.nextInt(4) < crashShare) {
                int n = random.nextInt(16) - 1;
                real.crashAfter(n);
                model.crashAfter(n);
                calls++;
            }
        }

        private void recover() {
            due("recover", real.recover(), model.recover());
        }

        private void lookAtOne(int vol, int lb) {
            int i = number(model.words);
            int slot = number(model.chunks + 1);
            switch (random.nextInt(7)) {
                case 0 -> due("readWord", real.readWord(vol, lb, i), model.readWord(vol, lb, i), vol, lb, i);
                case 1 -> due("chunksUsed", real.chunksUsed(), model.chunksUsed());
                case 2 -> due("refsOf", real.refsOf(vol, lb), model.refsOf(vol, lb), vol, lb);
                case 3 -> due("slotOf", real.slotOf(vol, lb), model.slotOf(vol, lb), vol, lb);
                case 4 -> due("slotWord", real.slotWord(slot, i), model.slotWord(slot, i), slot, i);
                case 5 -> due("down", real.down() ? 1 : 0, model.down ? 1 : 0);
                default -> due("writes", real.writes(), model.writes);
            }
        }

        private void lookAtAll() {
            due("writes", real.writes(), model.writes);
            due("down", real.down() ? 1 : 0, 0);
            due("chunksUsed", real.chunksUsed(), model.chunksUsed());
            for (int vol = 0; vol < model.volumes; vol++) {
                for (int lb = 0; lb < model.blocks; lb++) {
                    lookAtBlock(vol, lb);
                }
            }
            for (int slot = 0; slot <= model.chunks; slot++) {
                for (int i = 0; i < model.words; i++) {
                    due("slotWord", real.slotWord(slot, i), model.slotWord(slot, i), slot, i);
                }
            }
        }

        private void lookAtBlock(int vol, int lb) {
            due("slotOf", real.slotOf(vol, lb), model.slotOf(vol, lb), vol, lb);
            due("refsOf", real.refsOf(vol, lb), model.refsOf(vol, lb), vol, lb);
            for (int i = 0; i < model.words; i++) {
                due("readWord", real.readWord(vol, lb, i), model.readWord(vol, lb, i), vol, lb, i);
            }
        }

        private void due(String name, int got, int want, int... arguments) {
            calls++;
            if (got != want) {
                check.at("seed " + seed + ", call " + calls);
            }
            check.due(name + Arrays.toString(arguments), got, want);
        }
    }
}
